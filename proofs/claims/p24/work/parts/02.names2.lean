theorem dX4_contentCousins_1 : decode cX4_contentCousins 1 = .ok (.istore_n 1, 1) := by decide +kernel
theorem dX4_contentCousins_2 : decode cX4_contentCousins 2 = .ok (.iconst 0, 1) := by decide +kernel
theorem dX4_contentCousins_3 : decode cX4_contentCousins 3 = .ok (.istore_n 2, 1) := by decide +kernel
theorem dX4_contentCousins_4 : decode cX4_contentCousins 4 = .ok (.iload_n 2, 1) := by decide +kernel
theorem dX4_contentCousins_5 : decode cX4_contentCousins 5 = .ok (.bipush 7, 2) := by decide +kernel
theorem dX4_contentCousins_7 : decode cX4_contentCousins 7 = .ok (.if_icmp .ge 20, 3) := by decide +kernel
theorem dX4_contentCousins_10 : decode cX4_contentCousins 10 = .ok (.aload_n 0, 1) := by decide +kernel
theorem dX4_contentCousins_11 : decode cX4_contentCousins 11 = .ok (.iload_n 2, 1) := by decide +kernel
theorem dX4_contentCousins_12 : decode cX4_contentCousins 12 = .ok (.invokevirtual 51, 3) := by decide +kernel
theorem dX4_contentCousins_15 : decode cX4_contentCousins 15 = .ok (.ifCond .ne 6, 3) := by decide +kernel
theorem dX4_contentCousins_18 : decode cX4_contentCousins 18 = .ok (.iinc 1 1, 3) := by decide +kernel
theorem dX4_contentCousins_21 : decode cX4_contentCousins 21 = .ok (.iinc 2 1, 3) := by decide +kernel
theorem dX4_contentCousins_24 : decode cX4_contentCousins 24 = .ok (.goto (-20), 3) := by decide +kernel
theorem dX4_contentCousins_27 : decode cX4_contentCousins 27 = .ok (.iload_n 1, 1) := by decide +kernel
theorem dX4_contentCousins_28 : decode cX4_contentCousins 28 = .ok (.ireturn, 1) := by decide +kernel
set_option maxRecDepth 20000 in
theorem ggX4_whyNoTrade_X1_grudgeOf : GoodIn wsX4_whyNoTrade wsX1_grudgeOf := goodIn_r _ [7, 8, 20, 21, 22, 23, 24, 25, 26, 27, 28] rfl (by decide +kernel)
set_option maxRecDepth 20000 in
theorem gX4_whyNoTrade_X1_grudgeOf : GoodIn wsX4_whyNoTrade (wsV RX4 58 RX1 yX1_grudgeOf wsX1_grudgeOf) := goodIn_app (goodIn_of _ (by decide +kernel)) ggX4_whyNoTrade_X1_grudgeOf
set_option maxRecDepth 20000 in
theorem ggX4_whyNoTrade_X4_worthOf : GoodIn wsX4_whyNoTrade wsX4_worthOf := goodIn_r _ [13, 14, 15, 16, 17, 18, 19] rfl (by decide +kernel)
set_option maxRecDepth 20000 in
theorem gX4_whyNoTrade_X4_worthOf : GoodIn wsX4_whyNoTrade (wsV RX4 35 RX4 yX4_worthOf wsX4_worthOf) := goodIn_app (goodIn_of _ (by decide +kernel)) ggX4_whyNoTrade_X4_worthOf
theorem dX4_whyNoTrade_0 : decode cX4_whyNoTrade 0 = .ok (.aload_n 0, 1) := by decide +kernel
theorem dX4_whyNoTrade_1 : decode cX4_whyNoTrade 1 = .ok (.getfield 15, 3) := by decide +kernel
theorem dX4_whyNoTrade_4 : decode cX4_whyNoTrade 4 = .ok (.getfield 55, 3) := by decide +kernel
theorem dX4_whyNoTrade_7 : decode cX4_whyNoTrade 7 = .ok (.iconst 1, 1) := by decide +kernel
theorem dX4_whyNoTrade_8 : decode cX4_whyNoTrade 8 = .ok (.iaload, 1) := by decide +kernel
theorem dX4_whyNoTrade_9 : decode cX4_whyNoTrade 9 = .ok (.istore_n 3, 1) := by decide +kernel
theorem dX4_whyNoTrade_10 : decode cX4_whyNoTrade 10 = .ok (.aload_n 0, 1) := by decide +kernel
theorem dX4_whyNoTrade_11 : decode cX4_whyNoTrade 11 = .ok (.getfield 15, 3) := by decide +kernel
theorem dX4_whyNoTrade_14 : decode cX4_whyNoTrade 14 = .ok (.iload_n 1, 1) := by decide +kernel
theorem dX4_whyNoTrade_15 : decode cX4_whyNoTrade 15 = .ok (.iload_n 2, 1) := by decide +kernel
theorem dX4_whyNoTrade_16 : decode cX4_whyNoTrade 16 = .ok (.invokevirtual 58, 3) := by decide +kernel
theorem dX4_whyNoTrade_19 : decode cX4_whyNoTrade 19 = .ok (.iload_n 3, 1) := by decide +kernel
theorem dX4_whyNoTrade_20 : decode cX4_whyNoTrade 20 = .ok (.if_icmp .ge 16, 3) := by decide +kernel
theorem dX4_whyNoTrade_23 : decode cX4_whyNoTrade 23 = .ok (.aload_n 0, 1) := by decide +kernel
theorem dX4_whyNoTrade_24 : decode cX4_whyNoTrade 24 = .ok (.getfield 15, 3) := by decide +kernel
theorem dX4_whyNoTrade_27 : decode cX4_whyNoTrade 27 = .ok (.iload_n 2, 1) := by decide +kernel
theorem dX4_whyNoTrade_28 : decode cX4_whyNoTrade 28 = .ok (.iload_n 1, 1) := by decide +kernel
theorem dX4_whyNoTrade_29 : decode cX4_whyNoTrade 29 = .ok (.invokevirtual 58, 3) := by decide +kernel
theorem dX4_whyNoTrade_32 : decode cX4_whyNoTrade 32 = .ok (.iload_n 3, 1) := by decide +kernel
theorem dX4_whyNoTrade_33 : decode cX4_whyNoTrade 33 = .ok (.if_icmp .lt 5, 3) := by decide +kernel
theorem dX4_whyNoTrade_36 : decode cX4_whyNoTrade 36 = .ok (.iconst 1, 1) := by decide +kernel
theorem dX4_whyNoTrade_37 : decode cX4_whyNoTrade 37 = .ok (.ireturn, 1) := by decide +kernel
theorem dX4_whyNoTrade_38 : decode cX4_whyNoTrade 38 = .ok (.aload_n 0, 1) := by decide +kernel
theorem dX4_whyNoTrade_39 : decode cX4_whyNoTrade 39 = .ok (.iload_n 1, 1) := by decide +kernel
theorem dX4_whyNoTrade_40 : decode cX4_whyNoTrade 40 = .ok (.iload_n 2, 1) := by decide +kernel
theorem dX4_whyNoTrade_41 : decode cX4_whyNoTrade 41 = .ok (.invokevirtual 35, 3) := by decide +kernel
theorem dX4_whyNoTrade_44 : decode cX4_whyNoTrade 44 = .ok (.aload_n 0, 1) := by decide +kernel
theorem dX4_whyNoTrade_45 : decode cX4_whyNoTrade 45 = .ok (.iload_n 1, 1) := by decide +kernel
theorem dX4_whyNoTrade_46 : decode cX4_whyNoTrade 46 = .ok (.iload_n 1, 1) := by decide +kernel
theorem dX4_whyNoTrade_47 : decode cX4_whyNoTrade 47 = .ok (.invokevirtual 35, 3) := by decide +kernel
theorem dX4_whyNoTrade_50 : decode cX4_whyNoTrade 50 = .ok (.if_icmp .gt 5, 3) := by decide +kernel
theorem dX4_whyNoTrade_53 : decode cX4_whyNoTrade 53 = .ok (.iconst 2, 1) := by decide +kernel
theorem dX4_whyNoTrade_54 : decode cX4_whyNoTrade 54 = .ok (.ireturn, 1) := by decide +kernel
theorem dX4_whyNoTrade_55 : decode cX4_whyNoTrade 55 = .ok (.aload_n 0, 1) := by decide +kernel
theorem dX4_whyNoTrade_56 : decode cX4_whyNoTrade 56 = .ok (.iload_n 2, 1) := by decide +kernel
theorem dX4_whyNoTrade_57 : decode cX4_whyNoTrade 57 = .ok (.iload_n 1, 1) := by decide +kernel
theorem dX4_whyNoTrade_58 : decode cX4_whyNoTrade 58 = .ok (.invokevirtual 35, 3) := by decide +kernel
theorem dX4_whyNoTrade_61 : decode cX4_whyNoTrade 61 = .ok (.aload_n 0, 1) := by decide +kernel
theorem dX4_whyNoTrade_62 : decode cX4_whyNoTrade 62 = .ok (.iload_n 2, 1) := by decide +kernel
theorem dX4_whyNoTrade_63 : decode cX4_whyNoTrade 63 = .ok (.iload_n 2, 1) := by decide +kernel
theorem dX4_whyNoTrade_64 : decode cX4_whyNoTrade 64 = .ok (.invokevirtual 35, 3) := by decide +kernel
theorem dX4_whyNoTrade_67 : decode cX4_whyNoTrade 67 = .ok (.if_icmp .gt 5, 3) := by decide +kernel
theorem dX4_whyNoTrade_70 : decode cX4_whyNoTrade 70 = .ok (.iconst 3, 1) := by decide +kernel
theorem dX4_whyNoTrade_71 : decode cX4_whyNoTrade 71 = .ok (.ireturn, 1) := by decide +kernel
theorem dX4_whyNoTrade_72 : decode cX4_whyNoTrade 72 = .ok (.iconst 0, 1) := by decide +kernel
theorem dX4_whyNoTrade_73 : decode cX4_whyNoTrade 73 = .ok (.ireturn, 1) := by decide +kernel
set_option maxRecDepth 20000 in
theorem ggX4_tradingPairs_X4_whyNoTrade : GoodIn wsX4_tradingPairs wsX4_whyNoTrade := goodIn_r _ [5, 6, 7, 8, 9, 10, 11, 12, 13, 14, 15, 16, 4, 17, 18, 19, 20, 21, 22, 23, 24, 25, 26, 27, 28, 29, 30, 31, 32] rfl (by decide +kernel)
set_option maxRecDepth 20000 in
theorem gX4_tradingPairs_X4_whyNoTrade : GoodIn wsX4_tradingPairs (wsV RX4 61 RX4 yX4_whyNoTrade wsX4_whyNoTrade) := goodIn_app (goodIn_of _ (by decide +kernel)) ggX4_tradingPairs_X4_whyNoTrade
theorem dX4_tradingPairs_0 : decode cX4_tradingPairs 0 = .ok (.iconst 0, 1) := by decide +kernel
theorem dX4_tradingPairs_1 : decode cX4_tradingPairs 1 = .ok (.istore_n 1, 1) := by decide +kernel
theorem dX4_tradingPairs_2 : decode cX4_tradingPairs 2 = .ok (.iconst 0, 1) := by decide +kernel
theorem dX4_tradingPairs_3 : decode cX4_tradingPairs 3 = .ok (.istore_n 2, 1) := by decide +kernel
theorem dX4_tradingPairs_4 : decode cX4_tradingPairs 4 = .ok (.iload_n 2, 1) := by decide +kernel
theorem dX4_tradingPairs_5 : decode cX4_tradingPairs 5 = .ok (.bipush 7, 2) := by decide +kernel
theorem dX4_tradingPairs_7 : decode cX4_tradingPairs 7 = .ok (.if_icmp .ge 37, 3) := by decide +kernel
theorem dX4_tradingPairs_10 : decode cX4_tradingPairs 10 = .ok (.iload_n 2, 1) := by decide +kernel
theorem dX4_tradingPairs_11 : decode cX4_tradingPairs 11 = .ok (.iconst 1, 1) := by decide +kernel
theorem dX4_tradingPairs_12 : decode cX4_tradingPairs 12 = .ok (.iadd, 1) := by decide +kernel
theorem dX4_tradingPairs_13 : decode cX4_tradingPairs 13 = .ok (.istore_n 3, 1) := by decide +kernel
theorem dX4_tradingPairs_14 : decode cX4_tradingPairs 14 = .ok (.iload_n 3, 1) := by decide +kernel
theorem dX4_tradingPairs_15 : decode cX4_tradingPairs 15 = .ok (.bipush 7, 2) := by decide +kernel
theorem dX4_tradingPairs_17 : decode cX4_tradingPairs 17 = .ok (.if_icmp .ge 21, 3) := by decide +kernel
theorem dX4_tradingPairs_20 : decode cX4_tradingPairs 20 = .ok (.aload_n 0, 1) := by decide +kernel
theorem dX4_tradingPairs_21 : decode cX4_tradingPairs 21 = .ok (.iload_n 2, 1) := by decide +kernel
theorem dX4_tradingPairs_22 : decode cX4_tradingPairs 22 = .ok (.iload_n 3, 1) := by decide +kernel
theorem dX4_tradingPairs_23 : decode cX4_tradingPairs 23 = .ok (.invokevirtual 61, 3) := by decide +kernel
theorem dX4_tradingPairs_26 : decode cX4_tradingPairs 26 = .ok (.ifCond .ne 6, 3) := by decide +kernel
theorem dX4_tradingPairs_29 : decode cX4_tradingPairs 29 = .ok (.iinc 1 1, 3) := by decide +kernel
theorem dX4_tradingPairs_32 : decode cX4_tradingPairs 32 = .ok (.iinc 3 1, 3) := by decide +kernel
theorem dX4_tradingPairs_35 : decode cX4_tradingPairs 35 = .ok (.goto (-21), 3) := by decide +kernel
theorem dX4_tradingPairs_38 : decode cX4_tradingPairs 38 = .ok (.iinc 2 1, 3) := by decide +kernel
theorem dX4_tradingPairs_41 : decode cX4_tradingPairs 41 = .ok (.goto (-37), 3) := by decide +kernel
theorem dX4_tradingPairs_44 : decode cX4_tradingPairs 44 = .ok (.iload_n 1, 1) := by decide +kernel
theorem dX4_tradingPairs_45 : decode cX4_tradingPairs 45 = .ok (.ireturn, 1) := by decide +kernel
set_option maxRecDepth 20000 in
theorem ggX4_findBestTrade_X4_whyNoTrade : GoodIn wsX4_findBestTrade wsX4_whyNoTrade := goodIn_r _ [8, 9, 10, 11, 12, 13, 14, 15, 16, 17, 18, 19, 7, 20, 21, 54, 55, 56, 57, 58, 59, 60, 61, 62, 63, 64, 65, 66, 67] rfl (by decide +kernel)
set_option maxRecDepth 20000 in
theorem gX4_findBestTrade_X4_whyNoTrade : GoodIn wsX4_findBestTrade (wsV RX4 61 RX4 yX4_whyNoTrade wsX4_whyNoTrade) := goodIn_app (goodIn_of _ (by decide +kernel)) ggX4_findBestTrade_X4_whyNoTrade
set_option maxRecDepth 20000 in
theorem ggX4_findBestTrade_X4_enviesAfterTrade : GoodIn wsX4_findBestTrade wsX4_enviesAfterTrade := goodIn_r _ [25, 26, 27, 28, 7, 29, 21, 30, 31, 32, 33, 34, 35, 36, 37, 38, 39, 40, 41, 42, 43, 44, 45, 46, 47, 48, 49, 50, 51, 52, 9, 53, 17, 18, 19, 20, 54, 55, 56, 57, 58, 59, 60, 61, 62, 63, 64, 65, 66, 67] rfl (by decide +kernel)
set_option maxRecDepth 20000 in
theorem gX4_findBestTrade_X4_enviesAfterTrade : GoodIn wsX4_findBestTrade (wsV RX4 64 RX4 yX4_enviesAfterTrade wsX4_enviesAfterTrade) := goodIn_app (goodIn_of _ (by decide +kernel)) ggX4_findBestTrade_X4_enviesAfterTrade
theorem dX4_findBestTrade_0 : decode cX4_findBestTrade 0 = .ok (.iconst 0, 1) := by decide +kernel
theorem dX4_findBestTrade_1 : decode cX4_findBestTrade 1 = .ok (.istore_n 1, 1) := by decide +kernel
theorem dX4_findBestTrade_2 : decode cX4_findBestTrade 2 = .ok (.iconst 0, 1) := by decide +kernel
theorem dX4_findBestTrade_3 : decode cX4_findBestTrade 3 = .ok (.istore_n 2, 1) := by decide +kernel
theorem dX4_findBestTrade_4 : decode cX4_findBestTrade 4 = .ok (.iload_n 2, 1) := by decide +kernel
theorem dX4_findBestTrade_5 : decode cX4_findBestTrade 5 = .ok (.bipush 7, 2) := by decide +kernel
theorem dX4_findBestTrade_7 : decode cX4_findBestTrade 7 = .ok (.if_icmp .ge 73, 3) := by decide +kernel
theorem dX4_findBestTrade_10 : decode cX4_findBestTrade 10 = .ok (.iload_n 2, 1) := by decide +kernel
theorem dX4_findBestTrade_11 : decode cX4_findBestTrade 11 = .ok (.iconst 1, 1) := by decide +kernel
theorem dX4_findBestTrade_12 : decode cX4_findBestTrade 12 = .ok (.iadd, 1) := by decide +kernel
theorem dX4_findBestTrade_13 : decode cX4_findBestTrade 13 = .ok (.istore_n 3, 1) := by decide +kernel
theorem dX4_findBestTrade_14 : decode cX4_findBestTrade 14 = .ok (.iload_n 3, 1) := by decide +kernel
theorem dX4_findBestTrade_15 : decode cX4_findBestTrade 15 = .ok (.bipush 7, 2) := by decide +kernel
theorem dX4_findBestTrade_17 : decode cX4_findBestTrade 17 = .ok (.if_icmp .ge 57, 3) := by decide +kernel
theorem dX4_findBestTrade_20 : decode cX4_findBestTrade 20 = .ok (.aload_n 0, 1) := by decide +kernel
theorem dX4_findBestTrade_21 : decode cX4_findBestTrade 21 = .ok (.iload_n 2, 1) := by decide +kernel
theorem dX4_findBestTrade_22 : decode cX4_findBestTrade 22 = .ok (.iload_n 3, 1) := by decide +kernel
theorem dX4_findBestTrade_23 : decode cX4_findBestTrade 23 = .ok (.invokevirtual 61, 3) := by decide +kernel
theorem dX4_findBestTrade_26 : decode cX4_findBestTrade 26 = .ok (.ifCond .ne 42, 3) := by decide +kernel
theorem dX4_findBestTrade_29 : decode cX4_findBestTrade 29 = .ok (.aload_n 0, 1) := by decide +kernel
theorem dX4_findBestTrade_30 : decode cX4_findBestTrade 30 = .ok (.iload_n 2, 1) := by decide +kernel
theorem dX4_findBestTrade_31 : decode cX4_findBestTrade 31 = .ok (.iload_n 3, 1) := by decide +kernel
theorem dX4_findBestTrade_32 : decode cX4_findBestTrade 32 = .ok (.invokevirtual 64, 3) := by decide +kernel
theorem dX4_findBestTrade_35 : decode cX4_findBestTrade 35 = .ok (.istore 4, 2) := by decide +kernel
theorem dX4_findBestTrade_37 : decode cX4_findBestTrade 37 = .ok (.iload_n 1, 1) := by decide +kernel
theorem dX4_findBestTrade_38 : decode cX4_findBestTrade 38 = .ok (.ifCond .eq 12, 3) := by decide +kernel
theorem dX4_findBestTrade_41 : decode cX4_findBestTrade 41 = .ok (.iload 4, 2) := by decide +kernel
theorem dX4_findBestTrade_43 : decode cX4_findBestTrade 43 = .ok (.aload_n 0, 1) := by decide +kernel
theorem dX4_findBestTrade_44 : decode cX4_findBestTrade 44 = .ok (.getfield 67, 3) := by decide +kernel
theorem dX4_findBestTrade_47 : decode cX4_findBestTrade 47 = .ok (.if_icmp .ge 21, 3) := by decide +kernel
theorem dX4_findBestTrade_50 : decode cX4_findBestTrade 50 = .ok (.iconst 1, 1) := by decide +kernel
theorem dX4_findBestTrade_51 : decode cX4_findBestTrade 51 = .ok (.istore_n 1, 1) := by decide +kernel
theorem dX4_findBestTrade_52 : decode cX4_findBestTrade 52 = .ok (.aload_n 0, 1) := by decide +kernel
theorem dX4_findBestTrade_53 : decode cX4_findBestTrade 53 = .ok (.iload_n 2, 1) := by decide +kernel
theorem dX4_findBestTrade_54 : decode cX4_findBestTrade 54 = .ok (.putfield 71, 3) := by decide +kernel
theorem dX4_findBestTrade_57 : decode cX4_findBestTrade 57 = .ok (.aload_n 0, 1) := by decide +kernel
theorem dX4_findBestTrade_58 : decode cX4_findBestTrade 58 = .ok (.iload_n 3, 1) := by decide +kernel
theorem dX4_findBestTrade_59 : decode cX4_findBestTrade 59 = .ok (.putfield 74, 3) := by decide +kernel
theorem dX4_findBestTrade_62 : decode cX4_findBestTrade 62 = .ok (.aload_n 0, 1) := by decide +kernel
theorem dX4_findBestTrade_63 : decode cX4_findBestTrade 63 = .ok (.iload 4, 2) := by decide +kernel
theorem dX4_findBestTrade_65 : decode cX4_findBestTrade 65 = .ok (.putfield 67, 3) := by decide +kernel
theorem dX4_findBestTrade_68 : decode cX4_findBestTrade 68 = .ok (.iinc 3 1, 3) := by decide +kernel
theorem dX4_findBestTrade_71 : decode cX4_findBestTrade 71 = .ok (.goto (-57), 3) := by decide +kernel
theorem dX4_findBestTrade_74 : decode cX4_findBestTrade 74 = .ok (.iinc 2 1, 3) := by decide +kernel
theorem dX4_findBestTrade_77 : decode cX4_findBestTrade 77 = .ok (.goto (-73), 3) := by decide +kernel
theorem dX4_findBestTrade_80 : decode cX4_findBestTrade 80 = .ok (.iload_n 1, 1) := by decide +kernel
theorem dX4_findBestTrade_81 : decode cX4_findBestTrade 81 = .ok (.ireturn, 1) := by decide +kernel
set_option maxRecDepth 20000 in
theorem ggX4_enviesAfterTrade_X4_exchange : GoodIn wsX4_enviesAfterTrade wsX4_exchange := goodIn_r _ [5, 6, 36, 37, 38, 39, 40] rfl (by decide +kernel)
set_option maxRecDepth 20000 in
theorem gX4_enviesAfterTrade_X4_exchange : GoodIn wsX4_enviesAfterTrade (wsV RX4 77 RX4 yX4_exchange wsX4_exchange) := goodIn_app (goodIn_of _ (by decide +kernel)) ggX4_enviesAfterTrade_X4_exchange
set_option maxRecDepth 20000 in
theorem ggX4_enviesAfterTrade_X4_enviesAmong : GoodIn wsX4_enviesAfterTrade wsX4_enviesAmong := goodIn_r _ [10, 11, 12, 13, 14, 15, 16, 4, 17, 18, 19, 20, 21, 22, 23, 24, 25, 26, 27, 28, 29, 6, 30, 31, 32, 33, 34, 35, 36, 37, 38, 39, 40, 41, 42, 43, 44, 45, 46, 47, 48, 49] rfl (by decide +kernel)
set_option maxRecDepth 20000 in
theorem gX4_enviesAfterTrade_X4_enviesAmong : GoodIn wsX4_enviesAfterTrade (wsV RX4 81 RX4 yX4_enviesAmong wsX4_enviesAmong) := goodIn_app (goodIn_of _ (by decide +kernel)) ggX4_enviesAfterTrade_X4_enviesAmong
theorem dX4_enviesAfterTrade_0 : decode cX4_enviesAfterTrade 0 = .ok (.aload_n 0, 1) := by decide +kernel
theorem dX4_enviesAfterTrade_1 : decode cX4_enviesAfterTrade 1 = .ok (.iload_n 1, 1) := by decide +kernel
theorem dX4_enviesAfterTrade_2 : decode cX4_enviesAfterTrade 2 = .ok (.iload_n 2, 1) := by decide +kernel
theorem dX4_enviesAfterTrade_3 : decode cX4_enviesAfterTrade 3 = .ok (.invokevirtual 77, 3) := by decide +kernel
theorem dX4_enviesAfterTrade_6 : decode cX4_enviesAfterTrade 6 = .ok (.aload_n 0, 1) := by decide +kernel
theorem dX4_enviesAfterTrade_7 : decode cX4_enviesAfterTrade 7 = .ok (.bipush 127, 2) := by decide +kernel
theorem dX4_enviesAfterTrade_9 : decode cX4_enviesAfterTrade 9 = .ok (.invokevirtual 81, 3) := by decide +kernel
theorem dX4_enviesAfterTrade_12 : decode cX4_enviesAfterTrade 12 = .ok (.istore_n 3, 1) := by decide +kernel
theorem dX4_enviesAfterTrade_13 : decode cX4_enviesAfterTrade 13 = .ok (.aload_n 0, 1) := by decide +kernel
theorem dX4_enviesAfterTrade_14 : decode cX4_enviesAfterTrade 14 = .ok (.iload_n 1, 1) := by decide +kernel
theorem dX4_enviesAfterTrade_15 : decode cX4_enviesAfterTrade 15 = .ok (.iload_n 2, 1) := by decide +kernel
theorem dX4_enviesAfterTrade_16 : decode cX4_enviesAfterTrade 16 = .ok (.invokevirtual 77, 3) := by decide +kernel
theorem dX4_enviesAfterTrade_19 : decode cX4_enviesAfterTrade 19 = .ok (.iload_n 3, 1) := by decide +kernel
theorem dX4_enviesAfterTrade_20 : decode cX4_enviesAfterTrade 20 = .ok (.ireturn, 1) := by decide +kernel
set_option maxRecDepth 20000 in
theorem ggX5_init_X1_init : GoodIn wsX5_init wsX1_init := goodIn_r _ [28, 29, 2, 3, 30, 31, 32, 33, 34, 35, 36, 37, 38, 39, 6, 40, 41, 42, 43, 44, 71, 72, 73, 74, 75, 76, 77, 78, 79] rfl (by decide +kernel)
set_option maxRecDepth 20000 in
theorem gX5_init_X1_init : GoodIn wsX5_init (wsX1_init) := ggX5_init_X1_init
set_option maxRecDepth 20000 in
theorem ggX5_init_X0_init : GoodIn wsX5_init wsX0_init := goodIn_r _ [47, 48, 2, 3, 30, 49, 50, 51, 87, 88, 89, 90, 91, 92, 93, 94] rfl (by decide +kernel)
set_option maxRecDepth 20000 in
theorem gX5_init_X0_init : GoodIn wsX5_init (wsX0_init) := ggX5_init_X0_init
set_option maxRecDepth 20000 in
theorem ggX5_init_X4_init : GoodIn wsX5_init wsX4_init := goodIn_r _ [54, 55, 2, 3, 30, 56, 57, 95, 96, 97, 98, 99] rfl (by decide +kernel)
set_option maxRecDepth 20000 in
theorem gX5_init_X4_init : GoodIn wsX5_init (wsX4_init) := ggX5_init_X4_init
set_option maxRecDepth 20000 in
theorem ggX5_init_X3_init : GoodIn wsX5_init wsX3_init := goodIn_r _ [59, 60, 2, 3, 30, 61, 62, 63, 100, 101, 102, 103, 104, 105, 106, 107] rfl (by decide +kernel)
set_option maxRecDepth 20000 in
theorem gX5_init_X3_init_n34 : GoodIn wsX5_init (wsX3_init) := ggX5_init_X3_init
set_option maxRecDepth 20000 in
theorem ggX5_init_X2_init : GoodIn wsX5_init wsX2_init := goodIn_r _ [66, 67, 2, 3, 68, 69, 5, 6, 70, 27, 28, 29, 30, 31, 32, 33, 34, 35, 36, 37, 38, 39, 40, 41, 42, 43, 44, 108, 109, 71, 72, 73, 74, 75, 76, 77, 78, 79] rfl (by decide +kernel)
set_option maxRecDepth 20000 in
theorem gX5_init_X2_init : GoodIn wsX5_init (wsX2_init) := ggX5_init_X2_init
theorem dX5_init_0 : decode cX5_init 0 = .ok (.aload_n 0, 1) := by decide +kernel
theorem dX5_init_1 : decode cX5_init 1 = .ok (.invokespecial 3, 3) := by decide +kernel
theorem dX5_init_4 : decode cX5_init 4 = .ok (.aload_n 0, 1) := by decide +kernel
theorem dX5_init_5 : decode cX5_init 5 = .ok (.new 9, 3) := by decide +kernel
theorem dX5_init_8 : decode cX5_init 8 = .ok (.dup, 1) := by decide +kernel
theorem dX5_init_9 : decode cX5_init 9 = .ok (.invokespecial 11, 3) := by decide +kernel
theorem dX5_init_12 : decode cX5_init 12 = .ok (.putfield 12, 3) := by decide +kernel
theorem dX5_init_15 : decode cX5_init 15 = .ok (.aload_n 0, 1) := by decide +kernel
theorem dX5_init_16 : decode cX5_init 16 = .ok (.new 16, 3) := by decide +kernel
theorem dX5_init_19 : decode cX5_init 19 = .ok (.dup, 1) := by decide +kernel
theorem dX5_init_20 : decode cX5_init 20 = .ok (.aload_n 0, 1) := by decide +kernel
theorem dX5_init_21 : decode cX5_init 21 = .ok (.getfield 12, 3) := by decide +kernel
theorem dX5_init_24 : decode cX5_init 24 = .ok (.invokespecial 18, 3) := by decide +kernel
theorem dX5_init_27 : decode cX5_init 27 = .ok (.putfield 21, 3) := by decide +kernel
theorem dX5_init_30 : decode cX5_init 30 = .ok (.aload_n 0, 1) := by decide +kernel
theorem dX5_init_31 : decode cX5_init 31 = .ok (.new 25, 3) := by decide +kernel
theorem dX5_init_34 : decode cX5_init 34 = .ok (.dup, 1) := by decide +kernel
theorem dX5_init_35 : decode cX5_init 35 = .ok (.aload_n 0, 1) := by decide +kernel
theorem dX5_init_36 : decode cX5_init 36 = .ok (.getfield 12, 3) := by decide +kernel
theorem dX5_init_39 : decode cX5_init 39 = .ok (.invokespecial 27, 3) := by decide +kernel
theorem dX5_init_42 : decode cX5_init 42 = .ok (.putfield 28, 3) := by decide +kernel
theorem dX5_init_45 : decode cX5_init 45 = .ok (.aload_n 0, 1) := by decide +kernel
theorem dX5_init_46 : decode cX5_init 46 = .ok (.new 32, 3) := by decide +kernel
theorem dX5_init_49 : decode cX5_init 49 = .ok (.dup, 1) := by decide +kernel
theorem dX5_init_50 : decode cX5_init 50 = .ok (.invokespecial 34, 3) := by decide +kernel
theorem dX5_init_53 : decode cX5_init 53 = .ok (.putfield 35, 3) := by decide +kernel
theorem dX5_init_56 : decode cX5_init 56 = .ok (.aload_n 0, 1) := by decide +kernel
theorem dX5_init_57 : decode cX5_init 57 = .ok (.new 39, 3) := by decide +kernel
theorem dX5_init_60 : decode cX5_init 60 = .ok (.dup, 1) := by decide +kernel
theorem dX5_init_61 : decode cX5_init 61 = .ok (.invokespecial 41, 3) := by decide +kernel
theorem dX5_init_64 : decode cX5_init 64 = .ok (.putfield 42, 3) := by decide +kernel
theorem dX5_init_67 : decode cX5_init 67 = .ok (.aload_n 0, 1) := by decide +kernel
theorem dX5_init_68 : decode cX5_init 68 = .ok (.new 9, 3) := by decide +kernel
theorem dX5_init_71 : decode cX5_init 71 = .ok (.dup, 1) := by decide +kernel
theorem dX5_init_72 : decode cX5_init 72 = .ok (.invokespecial 11, 3) := by decide +kernel
theorem dX5_init_75 : decode cX5_init 75 = .ok (.putfield 46, 3) := by decide +kernel
theorem dX5_init_78 : decode cX5_init 78 = .ok (.aload_n 0, 1) := by decide +kernel
theorem dX5_init_79 : decode cX5_init 79 = .ok (.iconst 0, 1) := by decide +kernel
theorem dX5_init_80 : decode cX5_init 80 = .ok (.putfield 49, 3) := by decide +kernel
theorem dX5_init_83 : decode cX5_init 83 = .ok (.return_, 1) := by decide +kernel
set_option maxRecDepth 20000 in
theorem ggX5_plant_X5_isPlot : GoodIn wsX5_plant wsX5_isPlot := goodIn_r _ [7] rfl (by decide +kernel)
set_option maxRecDepth 20000 in
theorem gX5_plant_X5_isPlot : GoodIn wsX5_plant (va_wsS RX5 53 yX5_isPlot wsX5_isPlot) := goodIn_app (goodIn_of _ (by decide +kernel)) ggX5_plant_X5_isPlot
set_option maxRecDepth 20000 in
theorem ggX5_plant_X5_isCrop : GoodIn wsX5_plant wsX5_isCrop := goodIn_r _ [10] rfl (by decide +kernel)
set_option maxRecDepth 20000 in
theorem gX5_plant_X5_isCrop : GoodIn wsX5_plant (va_wsS RX5 57 yX5_isCrop wsX5_isCrop) := goodIn_app (goodIn_of _ (by decide +kernel)) ggX5_plant_X5_isCrop
set_option maxRecDepth 20000 in
theorem ggX5_plant_X5_isDigit : GoodIn wsX5_plant wsX5_isDigit := goodIn_r _ [13] rfl (by decide +kernel)
set_option maxRecDepth 20000 in
theorem gX5_plant_X5_isDigit : GoodIn wsX5_plant (va_wsS RX5 60 yX5_isDigit wsX5_isDigit) := goodIn_app (goodIn_of _ (by decide +kernel)) ggX5_plant_X5_isDigit
set_option maxRecDepth 20000 in
theorem ggX5_plant_X2_record : GoodIn wsX5_plant wsX2_record := goodIn_r _ [18, 19, 20, 21, 22, 23, 17, 24, 25, 26, 27, 28, 29, 30, 31, 32, 33, 34, 35, 36, 37, 38, 39, 40, 41, 42, 67, 68, 58, 59, 60, 61, 62, 63, 64, 65, 66] rfl (by decide +kernel)
set_option maxRecDepth 20000 in
theorem gX5_plant_X2_record : GoodIn wsX5_plant (wsV RX5 67 RX2 yX2_record wsX2_record) := goodIn_app (goodIn_of _ (by decide +kernel)) ggX5_plant_X2_record
set_option maxRecDepth 20000 in
theorem ggX5_plant_X1_putAmount : GoodIn wsX5_plant wsX1_putAmount := goodIn_r _ [46, 30, 47, 48, 49, 28, 50, 35, 39, 58, 59, 60, 61, 62, 63, 64, 65, 66] rfl (by decide +kernel)
set_option maxRecDepth 20000 in
theorem gX5_plant_X1_putAmount : GoodIn wsX5_plant (wsV RX5 70 RX1 yX1_putAmount wsX1_putAmount) := goodIn_app (goodIn_of _ (by decide +kernel)) ggX5_plant_X1_putAmount
theorem dX5_plant_0 : decode cX5_plant 0 = .ok (.iload_n 1, 1) := by decide +kernel
theorem dX5_plant_1 : decode cX5_plant 1 = .ok (.invokestatic 53, 3) := by decide +kernel
theorem dX5_plant_4 : decode cX5_plant 4 = .ok (.ifCond .eq 10, 3) := by decide +kernel
theorem dX5_plant_7 : decode cX5_plant 7 = .ok (.iload_n 2, 1) := by decide +kernel
theorem dX5_plant_8 : decode cX5_plant 8 = .ok (.invokestatic 57, 3) := by decide +kernel
theorem dX5_plant_11 : decode cX5_plant 11 = .ok (.ifCond .ne 5, 3) := by decide +kernel
theorem dX5_plant_14 : decode cX5_plant 14 = .ok (.iconst (-1), 1) := by decide +kernel
theorem dX5_plant_15 : decode cX5_plant 15 = .ok (.ireturn, 1) := by decide +kernel
theorem dX5_plant_16 : decode cX5_plant 16 = .ok (.iload_n 3, 1) := by decide +kernel
theorem dX5_plant_17 : decode cX5_plant 17 = .ok (.invokestatic 60, 3) := by decide +kernel
theorem dX5_plant_20 : decode cX5_plant 20 = .ok (.ifCond .ne 6, 3) := by decide +kernel
theorem dX5_plant_23 : decode cX5_plant 23 = .ok (.bipush (-2), 2) := by decide +kernel
theorem dX5_plant_25 : decode cX5_plant 25 = .ok (.ireturn, 1) := by decide +kernel
theorem dX5_plant_26 : decode cX5_plant 26 = .ok (.aload_n 0, 1) := by decide +kernel
theorem dX5_plant_27 : decode cX5_plant 27 = .ok (.getfield 12, 3) := by decide +kernel
theorem dX5_plant_30 : decode cX5_plant 30 = .ok (.getfield 63, 3) := by decide +kernel
theorem dX5_plant_33 : decode cX5_plant 33 = .ok (.iload_n 1, 1) := by decide +kernel
theorem dX5_plant_34 : decode cX5_plant 34 = .ok (.iconst 4, 1) := by decide +kernel
theorem dX5_plant_35 : decode cX5_plant 35 = .ok (.imul, 1) := by decide +kernel
theorem dX5_plant_36 : decode cX5_plant 36 = .ok (.iload_n 2, 1) := by decide +kernel
theorem dX5_plant_37 : decode cX5_plant 37 = .ok (.iadd, 1) := by decide +kernel
theorem dX5_plant_38 : decode cX5_plant 38 = .ok (.iaload, 1) := by decide +kernel
theorem dX5_plant_39 : decode cX5_plant 39 = .ok (.istore 4, 2) := by decide +kernel
theorem dX5_plant_41 : decode cX5_plant 41 = .ok (.iload 4, 2) := by decide +kernel
theorem dX5_plant_43 : decode cX5_plant 43 = .ok (.iload_n 3, 1) := by decide +kernel
theorem dX5_plant_44 : decode cX5_plant 44 = .ok (.if_icmp .ne 6, 3) := by decide +kernel
theorem dX5_plant_47 : decode cX5_plant 47 = .ok (.bipush (-5), 2) := by decide +kernel
theorem dX5_plant_49 : decode cX5_plant 49 = .ok (.ireturn, 1) := by decide +kernel
theorem dX5_plant_50 : decode cX5_plant 50 = .ok (.aload_n 0, 1) := by decide +kernel
theorem dX5_plant_51 : decode cX5_plant 51 = .ok (.getfield 42, 3) := by decide +kernel
theorem dX5_plant_54 : decode cX5_plant 54 = .ok (.aload_n 0, 1) := by decide +kernel
theorem dX5_plant_55 : decode cX5_plant 55 = .ok (.getfield 12, 3) := by decide +kernel
theorem dX5_plant_58 : decode cX5_plant 58 = .ok (.invokevirtual 67, 3) := by decide +kernel
theorem dX5_plant_61 : decode cX5_plant 61 = .ok (.aload_n 0, 1) := by decide +kernel
theorem dX5_plant_62 : decode cX5_plant 62 = .ok (.getfield 12, 3) := by decide +kernel
theorem dX5_plant_65 : decode cX5_plant 65 = .ok (.iload_n 1, 1) := by decide +kernel
theorem dX5_plant_66 : decode cX5_plant 66 = .ok (.iload_n 2, 1) := by decide +kernel
theorem dX5_plant_67 : decode cX5_plant 67 = .ok (.iload_n 3, 1) := by decide +kernel
theorem dX5_plant_68 : decode cX5_plant 68 = .ok (.invokevirtual 70, 3) := by decide +kernel
theorem dX5_plant_71 : decode cX5_plant 71 = .ok (.iload 4, 2) := by decide +kernel
theorem dX5_plant_73 : decode cX5_plant 73 = .ok (.ireturn, 1) := by decide +kernel
set_option maxRecDepth 20000 in
theorem ggX5_weigh_X5_isCousin : GoodIn wsX5_weigh wsX5_isCousin := goodIn_r _ [7] rfl (by decide +kernel)
set_option maxRecDepth 20000 in
theorem gX5_weigh_X5_isCousin : GoodIn wsX5_weigh (va_wsS RX5 74 yX5_isCousin wsX5_isCousin) := goodIn_app (goodIn_of _ (by decide +kernel)) ggX5_weigh_X5_isCousin
set_option maxRecDepth 20000 in
theorem ggX5_weigh_X5_isCrop : GoodIn wsX5_weigh wsX5_isCrop := goodIn_r _ [10] rfl (by decide +kernel)
set_option maxRecDepth 20000 in
theorem gX5_weigh_X5_isCrop : GoodIn wsX5_weigh (va_wsS RX5 57 yX5_isCrop wsX5_isCrop) := goodIn_app (goodIn_of _ (by decide +kernel)) ggX5_weigh_X5_isCrop
set_option maxRecDepth 20000 in
theorem ggX5_weigh_X5_isDigit : GoodIn wsX5_weigh wsX5_isDigit := goodIn_r _ [13] rfl (by decide +kernel)
set_option maxRecDepth 20000 in
theorem gX5_weigh_X5_isDigit : GoodIn wsX5_weigh (va_wsS RX5 60 yX5_isDigit wsX5_isDigit) := goodIn_app (goodIn_of _ (by decide +kernel)) ggX5_weigh_X5_isDigit
set_option maxRecDepth 20000 in
theorem ggX5_weigh_X2_record : GoodIn wsX5_weigh wsX2_record := goodIn_r _ [18, 19, 20, 21, 22, 23, 17, 24, 25, 26, 27, 28, 29, 30, 31, 32, 33, 34, 35, 36, 37, 38, 39, 40, 41, 42, 71, 72, 62, 63, 64, 65, 66, 67, 68, 69, 70] rfl (by decide +kernel)
set_option maxRecDepth 20000 in
theorem gX5_weigh_X2_record : GoodIn wsX5_weigh (wsV RX5 67 RX2 yX2_record wsX2_record) := goodIn_app (goodIn_of _ (by decide +kernel)) ggX5_weigh_X2_record
set_option maxRecDepth 20000 in
theorem ggX5_weigh_X1_putWeight : GoodIn wsX5_weigh wsX1_putWeight := goodIn_r _ [46, 35, 47, 48, 49, 28, 50, 51, 52, 53, 54, 30, 39, 62, 63, 64, 65, 66, 67, 68, 69, 70] rfl (by decide +kernel)
set_option maxRecDepth 20000 in
theorem gX5_weigh_X1_putWeight : GoodIn wsX5_weigh (wsV RX5 80 RX1 yX1_putWeight wsX1_putWeight) := goodIn_app (goodIn_of _ (by decide +kernel)) ggX5_weigh_X1_putWeight
theorem dX5_weigh_0 : decode cX5_weigh 0 = .ok (.iload_n 1, 1) := by decide +kernel
theorem dX5_weigh_1 : decode cX5_weigh 1 = .ok (.invokestatic 74, 3) := by decide +kernel
theorem dX5_weigh_4 : decode cX5_weigh 4 = .ok (.ifCond .eq 10, 3) := by decide +kernel
theorem dX5_weigh_7 : decode cX5_weigh 7 = .ok (.iload_n 2, 1) := by decide +kernel
theorem dX5_weigh_8 : decode cX5_weigh 8 = .ok (.invokestatic 57, 3) := by decide +kernel
theorem dX5_weigh_11 : decode cX5_weigh 11 = .ok (.ifCond .ne 5, 3) := by decide +kernel
theorem dX5_weigh_14 : decode cX5_weigh 14 = .ok (.iconst (-1), 1) := by decide +kernel
theorem dX5_weigh_15 : decode cX5_weigh 15 = .ok (.ireturn, 1) := by decide +kernel
theorem dX5_weigh_16 : decode cX5_weigh 16 = .ok (.iload_n 3, 1) := by decide +kernel
theorem dX5_weigh_17 : decode cX5_weigh 17 = .ok (.invokestatic 60, 3) := by decide +kernel
theorem dX5_weigh_20 : decode cX5_weigh 20 = .ok (.ifCond .ne 6, 3) := by decide +kernel
theorem dX5_weigh_23 : decode cX5_weigh 23 = .ok (.bipush (-2), 2) := by decide +kernel
theorem dX5_weigh_25 : decode cX5_weigh 25 = .ok (.ireturn, 1) := by decide +kernel
theorem dX5_weigh_26 : decode cX5_weigh 26 = .ok (.aload_n 0, 1) := by decide +kernel
theorem dX5_weigh_27 : decode cX5_weigh 27 = .ok (.getfield 12, 3) := by decide +kernel
theorem dX5_weigh_30 : decode cX5_weigh 30 = .ok (.getfield 77, 3) := by decide +kernel
theorem dX5_weigh_33 : decode cX5_weigh 33 = .ok (.iload_n 1, 1) := by decide +kernel
theorem dX5_weigh_34 : decode cX5_weigh 34 = .ok (.iconst 4, 1) := by decide +kernel
theorem dX5_weigh_35 : decode cX5_weigh 35 = .ok (.imul, 1) := by decide +kernel
theorem dX5_weigh_36 : decode cX5_weigh 36 = .ok (.iload_n 2, 1) := by decide +kernel
theorem dX5_weigh_37 : decode cX5_weigh 37 = .ok (.iadd, 1) := by decide +kernel
theorem dX5_weigh_38 : decode cX5_weigh 38 = .ok (.iaload, 1) := by decide +kernel
theorem dX5_weigh_39 : decode cX5_weigh 39 = .ok (.istore 4, 2) := by decide +kernel
theorem dX5_weigh_41 : decode cX5_weigh 41 = .ok (.iload 4, 2) := by decide +kernel
theorem dX5_weigh_43 : decode cX5_weigh 43 = .ok (.iload_n 3, 1) := by decide +kernel
theorem dX5_weigh_44 : decode cX5_weigh 44 = .ok (.if_icmp .ne 6, 3) := by decide +kernel
theorem dX5_weigh_47 : decode cX5_weigh 47 = .ok (.bipush (-5), 2) := by decide +kernel
theorem dX5_weigh_49 : decode cX5_weigh 49 = .ok (.ireturn, 1) := by decide +kernel
theorem dX5_weigh_50 : decode cX5_weigh 50 = .ok (.aload_n 0, 1) := by decide +kernel
theorem dX5_weigh_51 : decode cX5_weigh 51 = .ok (.getfield 42, 3) := by decide +kernel
theorem dX5_weigh_54 : decode cX5_weigh 54 = .ok (.aload_n 0, 1) := by decide +kernel
theorem dX5_weigh_55 : decode cX5_weigh 55 = .ok (.getfield 12, 3) := by decide +kernel
theorem dX5_weigh_58 : decode cX5_weigh 58 = .ok (.invokevirtual 67, 3) := by decide +kernel
theorem dX5_weigh_61 : decode cX5_weigh 61 = .ok (.aload_n 0, 1) := by decide +kernel
theorem dX5_weigh_62 : decode cX5_weigh 62 = .ok (.getfield 12, 3) := by decide +kernel
theorem dX5_weigh_65 : decode cX5_weigh 65 = .ok (.iload_n 1, 1) := by decide +kernel
theorem dX5_weigh_66 : decode cX5_weigh 66 = .ok (.iload_n 2, 1) := by decide +kernel
theorem dX5_weigh_67 : decode cX5_weigh 67 = .ok (.iload_n 3, 1) := by decide +kernel
theorem dX5_weigh_68 : decode cX5_weigh 68 = .ok (.invokevirtual 80, 3) := by decide +kernel
theorem dX5_weigh_71 : decode cX5_weigh 71 = .ok (.iload 4, 2) := by decide +kernel
theorem dX5_weigh_73 : decode cX5_weigh 73 = .ok (.ireturn, 1) := by decide +kernel
set_option maxRecDepth 20000 in
theorem ggX5_grudge_X5_isCousin : GoodIn wsX5_grudge wsX5_isCousin := goodIn_r _ [6] rfl (by decide +kernel)
set_option maxRecDepth 20000 in
theorem gX5_grudge_X5_isCousin : GoodIn wsX5_grudge (va_wsS RX5 74 yX5_isCousin wsX5_isCousin) := goodIn_app (goodIn_of _ (by decide +kernel)) ggX5_grudge_X5_isCousin
set_option maxRecDepth 20000 in
theorem ggX5_grudge_X5_isDigit : GoodIn wsX5_grudge wsX5_isDigit := goodIn_r _ [9] rfl (by decide +kernel)
set_option maxRecDepth 20000 in
theorem gX5_grudge_X5_isDigit : GoodIn wsX5_grudge (va_wsS RX5 60 yX5_isDigit wsX5_isDigit) := goodIn_app (goodIn_of _ (by decide +kernel)) ggX5_grudge_X5_isDigit
set_option maxRecDepth 20000 in
theorem ggX5_grudge_X1_grudgeOf : GoodIn wsX5_grudge wsX1_grudgeOf := goodIn_r _ [14, 15, 54, 55, 56, 57, 58, 59, 60, 61, 62] rfl (by decide +kernel)
set_option maxRecDepth 20000 in
theorem gX5_grudge_X1_grudgeOf : GoodIn wsX5_grudge (wsV RX5 83 RX1 yX1_grudgeOf wsX1_grudgeOf) := goodIn_app (goodIn_of _ (by decide +kernel)) ggX5_grudge_X1_grudgeOf
set_option maxRecDepth 20000 in
theorem ggX5_grudge_X2_record : GoodIn wsX5_grudge wsX2_record := goodIn_r _ [20, 21, 22, 23, 24, 25, 19, 26, 27, 28, 29, 13, 30, 31, 32, 33, 34, 35, 36, 15, 37, 38, 39, 40, 41, 42, 63, 64, 54, 55, 56, 57, 58, 59, 60, 61, 62] rfl (by decide +kernel)
set_option maxRecDepth 20000 in
theorem gX5_grudge_X2_record : GoodIn wsX5_grudge (wsV RX5 67 RX2 yX2_record wsX2_record) := goodIn_app (goodIn_of _ (by decide +kernel)) ggX5_grudge_X2_record
set_option maxRecDepth 20000 in
theorem ggX5_grudge_X1_putGrudge : GoodIn wsX5_grudge wsX1_putGrudge := goodIn_r _ [46, 15, 54, 55, 56, 57, 58, 59, 60, 61, 62] rfl (by decide +kernel)
set_option maxRecDepth 20000 in
theorem gX5_grudge_X1_putGrudge : GoodIn wsX5_grudge (wsV RX5 87 RX1 yX1_putGrudge wsX1_putGrudge) := goodIn_app (goodIn_of _ (by decide +kernel)) ggX5_grudge_X1_putGrudge
theorem dX5_grudge_0 : decode cX5_grudge 0 = .ok (.iload_n 1, 1) := by decide +kernel
theorem dX5_grudge_1 : decode cX5_grudge 1 = .ok (.invokestatic 74, 3) := by decide +kernel
theorem dX5_grudge_4 : decode cX5_grudge 4 = .ok (.ifCond .eq 10, 3) := by decide +kernel
theorem dX5_grudge_7 : decode cX5_grudge 7 = .ok (.iload_n 2, 1) := by decide +kernel
theorem dX5_grudge_8 : decode cX5_grudge 8 = .ok (.invokestatic 74, 3) := by decide +kernel
theorem dX5_grudge_11 : decode cX5_grudge 11 = .ok (.ifCond .ne 5, 3) := by decide +kernel
theorem dX5_grudge_14 : decode cX5_grudge 14 = .ok (.iconst (-1), 1) := by decide +kernel
theorem dX5_grudge_15 : decode cX5_grudge 15 = .ok (.ireturn, 1) := by decide +kernel
theorem dX5_grudge_16 : decode cX5_grudge 16 = .ok (.iload_n 1, 1) := by decide +kernel
theorem dX5_grudge_17 : decode cX5_grudge 17 = .ok (.iload_n 2, 1) := by decide +kernel
theorem dX5_grudge_18 : decode cX5_grudge 18 = .ok (.if_icmp .eq 10, 3) := by decide +kernel
theorem dX5_grudge_21 : decode cX5_grudge 21 = .ok (.iload_n 3, 1) := by decide +kernel
theorem dX5_grudge_22 : decode cX5_grudge 22 = .ok (.invokestatic 60, 3) := by decide +kernel
theorem dX5_grudge_25 : decode cX5_grudge 25 = .ok (.ifCond .ne 6, 3) := by decide +kernel
theorem dX5_grudge_28 : decode cX5_grudge 28 = .ok (.bipush (-2), 2) := by decide +kernel
theorem dX5_grudge_30 : decode cX5_grudge 30 = .ok (.ireturn, 1) := by decide +kernel
theorem dX5_grudge_31 : decode cX5_grudge 31 = .ok (.aload_n 0, 1) := by decide +kernel
theorem dX5_grudge_32 : decode cX5_grudge 32 = .ok (.getfield 12, 3) := by decide +kernel
theorem dX5_grudge_35 : decode cX5_grudge 35 = .ok (.iload_n 1, 1) := by decide +kernel
theorem dX5_grudge_36 : decode cX5_grudge 36 = .ok (.iload_n 2, 1) := by decide +kernel
theorem dX5_grudge_37 : decode cX5_grudge 37 = .ok (.invokevirtual 83, 3) := by decide +kernel
theorem dX5_grudge_40 : decode cX5_grudge 40 = .ok (.istore 4, 2) := by decide +kernel
theorem dX5_grudge_42 : decode cX5_grudge 42 = .ok (.iload 4, 2) := by decide +kernel
theorem dX5_grudge_44 : decode cX5_grudge 44 = .ok (.iload_n 3, 1) := by decide +kernel
theorem dX5_grudge_45 : decode cX5_grudge 45 = .ok (.if_icmp .ne 6, 3) := by decide +kernel
theorem dX5_grudge_48 : decode cX5_grudge 48 = .ok (.bipush (-5), 2) := by decide +kernel
theorem dX5_grudge_50 : decode cX5_grudge 50 = .ok (.ireturn, 1) := by decide +kernel
theorem dX5_grudge_51 : decode cX5_grudge 51 = .ok (.aload_n 0, 1) := by decide +kernel
theorem dX5_grudge_52 : decode cX5_grudge 52 = .ok (.getfield 42, 3) := by decide +kernel
theorem dX5_grudge_55 : decode cX5_grudge 55 = .ok (.aload_n 0, 1) := by decide +kernel
theorem dX5_grudge_56 : decode cX5_grudge 56 = .ok (.getfield 12, 3) := by decide +kernel
theorem dX5_grudge_59 : decode cX5_grudge 59 = .ok (.invokevirtual 67, 3) := by decide +kernel
theorem dX5_grudge_62 : decode cX5_grudge 62 = .ok (.aload_n 0, 1) := by decide +kernel
theorem dX5_grudge_63 : decode cX5_grudge 63 = .ok (.getfield 12, 3) := by decide +kernel
theorem dX5_grudge_66 : decode cX5_grudge 66 = .ok (.iload_n 1, 1) := by decide +kernel
theorem dX5_grudge_67 : decode cX5_grudge 67 = .ok (.iload_n 2, 1) := by decide +kernel
theorem dX5_grudge_68 : decode cX5_grudge 68 = .ok (.iload_n 3, 1) := by decide +kernel
theorem dX5_grudge_69 : decode cX5_grudge 69 = .ok (.invokevirtual 87, 3) := by decide +kernel
theorem dX5_grudge_72 : decode cX5_grudge 72 = .ok (.iload 4, 2) := by decide +kernel
theorem dX5_grudge_74 : decode cX5_grudge 74 = .ok (.ireturn, 1) := by decide +kernel
set_option maxRecDepth 20000 in
theorem ggX5_set_X5_isSettingValue : GoodIn wsX5_set wsX5_isSettingValue := goodIn_r _ [7] rfl (by decide +kernel)
set_option maxRecDepth 20000 in
theorem gX5_set_X5_isSettingValue : GoodIn wsX5_set (va_wsS RX5 90 yX5_isSettingValue wsX5_isSettingValue) := goodIn_app (goodIn_of _ (by decide +kernel)) ggX5_set_X5_isSettingValue
set_option maxRecDepth 20000 in
theorem ggX5_set_X2_record : GoodIn wsX5_set wsX2_record := goodIn_r _ [12, 13, 14, 15, 16, 17, 11, 18, 19, 20, 21, 22, 23, 24, 25, 26, 27, 28, 29, 30, 31, 32, 33, 34, 35, 36, 53, 54, 44, 45, 46, 47, 48, 49, 50, 51, 52] rfl (by decide +kernel)
set_option maxRecDepth 20000 in
theorem gX5_set_X2_record : GoodIn wsX5_set (wsV RX5 67 RX2 yX2_record wsX2_record) := goodIn_app (goodIn_of _ (by decide +kernel)) ggX5_set_X2_record
theorem dX5_set_0 : decode cX5_set 0 = .ok (.iload_n 1, 1) := by decide +kernel
theorem dX5_set_1 : decode cX5_set 1 = .ok (.ifCond .lt 8, 3) := by decide +kernel
theorem dX5_set_4 : decode cX5_set 4 = .ok (.iload_n 1, 1) := by decide +kernel
theorem dX5_set_5 : decode cX5_set 5 = .ok (.iconst 2, 1) := by decide +kernel
theorem dX5_set_6 : decode cX5_set 6 = .ok (.if_icmp .lt 5, 3) := by decide +kernel
theorem dX5_set_9 : decode cX5_set 9 = .ok (.iconst (-1), 1) := by decide +kernel
theorem dX5_set_10 : decode cX5_set 10 = .ok (.ireturn, 1) := by decide +kernel
theorem dX5_set_11 : decode cX5_set 11 = .ok (.iload_n 1, 1) := by decide +kernel
theorem dX5_set_12 : decode cX5_set 12 = .ok (.iload_n 2, 1) := by decide +kernel
theorem dX5_set_13 : decode cX5_set 13 = .ok (.invokestatic 90, 3) := by decide +kernel
theorem dX5_set_16 : decode cX5_set 16 = .ok (.ifCond .ne 6, 3) := by decide +kernel
theorem dX5_set_19 : decode cX5_set 19 = .ok (.bipush (-2), 2) := by decide +kernel
theorem dX5_set_21 : decode cX5_set 21 = .ok (.ireturn, 1) := by decide +kernel
theorem dX5_set_22 : decode cX5_set 22 = .ok (.aload_n 0, 1) := by decide +kernel
theorem dX5_set_23 : decode cX5_set 23 = .ok (.getfield 12, 3) := by decide +kernel
theorem dX5_set_26 : decode cX5_set 26 = .ok (.getfield 94, 3) := by decide +kernel
theorem dX5_set_29 : decode cX5_set 29 = .ok (.iload_n 1, 1) := by decide +kernel
theorem dX5_set_30 : decode cX5_set 30 = .ok (.iaload, 1) := by decide +kernel
theorem dX5_set_31 : decode cX5_set 31 = .ok (.istore_n 3, 1) := by decide +kernel
theorem dX5_set_32 : decode cX5_set 32 = .ok (.iload_n 3, 1) := by decide +kernel
theorem dX5_set_33 : decode cX5_set 33 = .ok (.iload_n 2, 1) := by decide +kernel
theorem dX5_set_34 : decode cX5_set 34 = .ok (.if_icmp .ne 6, 3) := by decide +kernel
theorem dX5_set_37 : decode cX5_set 37 = .ok (.bipush (-5), 2) := by decide +kernel
theorem dX5_set_39 : decode cX5_set 39 = .ok (.ireturn, 1) := by decide +kernel
theorem dX5_set_40 : decode cX5_set 40 = .ok (.aload_n 0, 1) := by decide +kernel
theorem dX5_set_41 : decode cX5_set 41 = .ok (.getfield 42, 3) := by decide +kernel
theorem dX5_set_44 : decode cX5_set 44 = .ok (.aload_n 0, 1) := by decide +kernel
theorem dX5_set_45 : decode cX5_set 45 = .ok (.getfield 12, 3) := by decide +kernel
theorem dX5_set_48 : decode cX5_set 48 = .ok (.invokevirtual 67, 3) := by decide +kernel
theorem dX5_set_51 : decode cX5_set 51 = .ok (.aload_n 0, 1) := by decide +kernel
theorem dX5_set_52 : decode cX5_set 52 = .ok (.getfield 12, 3) := by decide +kernel
theorem dX5_set_55 : decode cX5_set 55 = .ok (.getfield 94, 3) := by decide +kernel
theorem dX5_set_58 : decode cX5_set 58 = .ok (.iload_n 1, 1) := by decide +kernel
theorem dX5_set_59 : decode cX5_set 59 = .ok (.iload_n 2, 1) := by decide +kernel
theorem dX5_set_60 : decode cX5_set 60 = .ok (.iastore, 1) := by decide +kernel
theorem dX5_set_61 : decode cX5_set 61 = .ok (.iload_n 3, 1) := by decide +kernel
theorem dX5_set_62 : decode cX5_set 62 = .ok (.ireturn, 1) := by decide +kernel
set_option maxRecDepth 20000 in
theorem ggX5_divide_X5_isParty : GoodIn wsX5_divide wsX5_isParty := goodIn_r _ [8] rfl (by decide +kernel)
set_option maxRecDepth 20000 in
theorem gX5_divide_X5_isParty : GoodIn wsX5_divide (va_wsS RX5 97 yX5_isParty wsX5_isParty) := goodIn_app (goodIn_of _ (by decide +kernel)) ggX5_divide_X5_isParty
set_option maxRecDepth 20000 in
theorem ggX5_divide_X2_record : GoodIn wsX5_divide wsX2_record := goodIn_r _ [13, 14, 15, 16, 17, 18, 12, 19, 20, 21, 22, 23, 24, 25, 26, 27, 28, 29, 30, 31, 32, 33, 34, 35, 36, 37, 136, 137, 138, 139, 140, 141, 142, 143, 144, 145, 146] rfl (by decide +kernel)
set_option maxRecDepth 20000 in
theorem gX5_divide_X2_record : GoodIn wsX5_divide (wsV RX5 67 RX2 yX2_record wsX2_record) := goodIn_app (goodIn_of _ (by decide +kernel)) ggX5_divide_X2_record
set_option maxRecDepth 20000 in
theorem ggX5_divide_X5_divideNow : GoodIn wsX5_divide wsX5_divideNow := goodIn_r _ [41, 3, 42, 2, 43, 44, 27, 28, 29, 45, 4, 46, 47, 48, 49, 50, 51, 52, 53, 54, 55, 56, 57, 58, 59, 60, 61, 62, 63, 64, 65, 66, 23, 67, 33, 68, 69, 70, 71, 31, 72, 73, 74, 75, 76, 77, 78, 79, 80, 81, 82, 83, 7, 84, 85, 86, 87, 88, 89, 90, 91, 92, 34, 93, 94, 95, 96, 97, 98, 99, 100, 101, 102, 103, 104, 105, 106, 107, 108, 109, 110, 111, 112, 113, 114, 115, 116, 117, 118, 119, 120, 121, 122, 123, 124, 125, 126, 127, 128, 129, 130, 131, 132, 133, 134, 135, 138, 139, 140, 141, 142, 143, 144, 145, 146] rfl (by decide +kernel)
set_option maxRecDepth 20000 in
theorem gX5_divide_X5_divideNow : GoodIn wsX5_divide (wsV RX5 100 RX5 yX5_divideNow wsX5_divideNow) := goodIn_app (goodIn_of _ (by decide +kernel)) ggX5_divide_X5_divideNow
theorem dX5_divide_0 : decode cX5_divide 0 = .ok (.iload_n 1, 1) := by decide +kernel
theorem dX5_divide_1 : decode cX5_divide 1 = .ok (.invokestatic 97, 3) := by decide +kernel
theorem dX5_divide_4 : decode cX5_divide 4 = .ok (.ifCond .ne 6, 3) := by decide +kernel
theorem dX5_divide_7 : decode cX5_divide 7 = .ok (.bipush (-2), 2) := by decide +kernel
theorem dX5_divide_9 : decode cX5_divide 9 = .ok (.ireturn, 1) := by decide +kernel
theorem dX5_divide_10 : decode cX5_divide 10 = .ok (.aload_n 0, 1) := by decide +kernel
theorem dX5_divide_11 : decode cX5_divide 11 = .ok (.getfield 42, 3) := by decide +kernel
theorem dX5_divide_14 : decode cX5_divide 14 = .ok (.aload_n 0, 1) := by decide +kernel
theorem dX5_divide_15 : decode cX5_divide 15 = .ok (.getfield 12, 3) := by decide +kernel
theorem dX5_divide_18 : decode cX5_divide 18 = .ok (.invokevirtual 67, 3) := by decide +kernel
theorem dX5_divide_21 : decode cX5_divide 21 = .ok (.aload_n 0, 1) := by decide +kernel
theorem dX5_divide_22 : decode cX5_divide 22 = .ok (.iload_n 1, 1) := by decide +kernel
theorem dX5_divide_23 : decode cX5_divide 23 = .ok (.invokevirtual 100, 3) := by decide +kernel
theorem dX5_divide_26 : decode cX5_divide 26 = .ok (.aload_n 0, 1) := by decide +kernel
theorem dX5_divide_27 : decode cX5_divide 27 = .ok (.getfield 21, 3) := by decide +kernel
theorem dX5_divide_30 : decode cX5_divide 30 = .ok (.getfield 104, 3) := by decide +kernel
theorem dX5_divide_33 : decode cX5_divide 33 = .ok (.ireturn, 1) := by decide +kernel
set_option maxRecDepth 20000 in
theorem ggX5_give_X5_isPlot : GoodIn wsX5_give wsX5_isPlot := goodIn_r _ [7] rfl (by decide +kernel)
set_option maxRecDepth 20000 in
theorem gX5_give_X5_isPlot : GoodIn wsX5_give (va_wsS RX5 53 yX5_isPlot wsX5_isPlot) := goodIn_app (goodIn_of _ (by decide +kernel)) ggX5_give_X5_isPlot
set_option maxRecDepth 20000 in
theorem ggX5_give_X5_isCousin : GoodIn wsX5_give wsX5_isCousin := goodIn_r _ [10] rfl (by decide +kernel)
set_option maxRecDepth 20000 in
theorem gX5_give_X5_isCousin : GoodIn wsX5_give (va_wsS RX5 74 yX5_isCousin wsX5_isCousin) := goodIn_app (goodIn_of _ (by decide +kernel)) ggX5_give_X5_isCousin
set_option maxRecDepth 20000 in
theorem ggX5_give_X2_record : GoodIn wsX5_give wsX2_record := goodIn_r _ [15, 16, 17, 18, 19, 20, 14, 21, 22, 23, 24, 25, 26, 27, 28, 29, 30, 31, 32, 33, 34, 35, 36, 37, 38, 39, 56, 57, 47, 48, 49, 50, 51, 52, 53, 54, 55] rfl (by decide +kernel)
set_option maxRecDepth 20000 in
theorem gX5_give_X2_record : GoodIn wsX5_give (wsV RX5 67 RX2 yX2_record wsX2_record) := goodIn_app (goodIn_of _ (by decide +kernel)) ggX5_give_X2_record
theorem dX5_give_0 : decode cX5_give 0 = .ok (.iload_n 1, 1) := by decide +kernel
theorem dX5_give_1 : decode cX5_give 1 = .ok (.invokestatic 53, 3) := by decide +kernel
theorem dX5_give_4 : decode cX5_give 4 = .ok (.ifCond .eq 16, 3) := by decide +kernel
theorem dX5_give_7 : decode cX5_give 7 = .ok (.iload_n 2, 1) := by decide +kernel
theorem dX5_give_8 : decode cX5_give 8 = .ok (.invokestatic 74, 3) := by decide +kernel
theorem dX5_give_11 : decode cX5_give 11 = .ok (.ifCond .ne 11, 3) := by decide +kernel
theorem dX5_give_14 : decode cX5_give 14 = .ok (.iload_n 2, 1) := by decide +kernel
theorem dX5_give_15 : decode cX5_give 15 = .ok (.bipush 7, 2) := by decide +kernel
theorem dX5_give_17 : decode cX5_give 17 = .ok (.if_icmp .eq 5, 3) := by decide +kernel
theorem dX5_give_20 : decode cX5_give 20 = .ok (.iconst (-1), 1) := by decide +kernel
theorem dX5_give_21 : decode cX5_give 21 = .ok (.ireturn, 1) := by decide +kernel
theorem dX5_give_22 : decode cX5_give 22 = .ok (.aload_n 0, 1) := by decide +kernel
theorem dX5_give_23 : decode cX5_give 23 = .ok (.getfield 12, 3) := by decide +kernel
theorem dX5_give_26 : decode cX5_give 26 = .ok (.getfield 108, 3) := by decide +kernel
theorem dX5_give_29 : decode cX5_give 29 = .ok (.iload_n 1, 1) := by decide +kernel
theorem dX5_give_30 : decode cX5_give 30 = .ok (.iaload, 1) := by decide +kernel
theorem dX5_give_31 : decode cX5_give 31 = .ok (.istore_n 3, 1) := by decide +kernel
theorem dX5_give_32 : decode cX5_give 32 = .ok (.iload_n 3, 1) := by decide +kernel
theorem dX5_give_33 : decode cX5_give 33 = .ok (.iload_n 2, 1) := by decide +kernel
theorem dX5_give_34 : decode cX5_give 34 = .ok (.if_icmp .ne 6, 3) := by decide +kernel
theorem dX5_give_37 : decode cX5_give 37 = .ok (.bipush (-5), 2) := by decide +kernel
theorem dX5_give_39 : decode cX5_give 39 = .ok (.ireturn, 1) := by decide +kernel
theorem dX5_give_40 : decode cX5_give 40 = .ok (.aload_n 0, 1) := by decide +kernel
theorem dX5_give_41 : decode cX5_give 41 = .ok (.getfield 42, 3) := by decide +kernel
theorem dX5_give_44 : decode cX5_give 44 = .ok (.aload_n 0, 1) := by decide +kernel
theorem dX5_give_45 : decode cX5_give 45 = .ok (.getfield 12, 3) := by decide +kernel
theorem dX5_give_48 : decode cX5_give 48 = .ok (.invokevirtual 67, 3) := by decide +kernel
theorem dX5_give_51 : decode cX5_give 51 = .ok (.aload_n 0, 1) := by decide +kernel
theorem dX5_give_52 : decode cX5_give 52 = .ok (.getfield 12, 3) := by decide +kernel
theorem dX5_give_55 : decode cX5_give 55 = .ok (.getfield 108, 3) := by decide +kernel
theorem dX5_give_58 : decode cX5_give 58 = .ok (.iload_n 1, 1) := by decide +kernel
theorem dX5_give_59 : decode cX5_give 59 = .ok (.iload_n 2, 1) := by decide +kernel
theorem dX5_give_60 : decode cX5_give 60 = .ok (.iastore, 1) := by decide +kernel
theorem dX5_give_61 : decode cX5_give 61 = .ok (.iload_n 3, 1) := by decide +kernel
theorem dX5_give_62 : decode cX5_give 62 = .ok (.ireturn, 1) := by decide +kernel
set_option maxRecDepth 20000 in
theorem ggX5_trade_X5_isCousin : GoodIn wsX5_trade wsX5_isCousin := goodIn_r _ [8] rfl (by decide +kernel)
set_option maxRecDepth 20000 in
theorem gX5_trade_X5_isCousin : GoodIn wsX5_trade (va_wsS RX5 74 yX5_isCousin wsX5_isCousin) := goodIn_app (goodIn_of _ (by decide +kernel)) ggX5_trade_X5_isCousin
set_option maxRecDepth 20000 in
theorem ggX5_trade_X4_measure : GoodIn wsX5_trade wsX4_measure := goodIn_r _ [13, 14, 15, 6, 7, 8, 16, 17, 18, 19, 20, 21, 114, 115, 116, 117, 118, 105, 106, 107, 108, 109, 110, 111, 112, 113] rfl (by decide +kernel)
set_option maxRecDepth 20000 in
theorem gX5_trade_X4_measure : GoodIn wsX5_trade (wsV RX5 111 RX4 yX4_measure wsX4_measure) := goodIn_app (goodIn_of _ (by decide +kernel)) ggX5_trade_X4_measure
set_option maxRecDepth 20000 in
theorem ggX5_trade_X4_whyNoTrade : GoodIn wsX5_trade wsX4_whyNoTrade := goodIn_r _ [25, 15, 26, 27, 28, 29, 19, 30, 31, 32, 33, 34, 12, 35, 14, 114, 115, 116, 117, 118, 105, 106, 107, 108, 109, 110, 111, 112, 113] rfl (by decide +kernel)
set_option maxRecDepth 20000 in
theorem gX5_trade_X4_whyNoTrade : GoodIn wsX5_trade (wsV RX5 115 RX4 yX4_whyNoTrade wsX4_whyNoTrade) := goodIn_app (goodIn_of _ (by decide +kernel)) ggX5_trade_X4_whyNoTrade
set_option maxRecDepth 20000 in
theorem ggX5_trade_X2_record : GoodIn wsX5_trade wsX2_record := goodIn_r _ [40, 41, 42, 43, 44, 45, 39, 46, 47, 48, 49, 19, 50, 51, 52, 53, 54, 55, 56, 31, 57, 58, 21, 59, 60, 61, 119, 120, 105, 106, 107, 108, 109, 110, 111, 112, 113] rfl (by decide +kernel)
set_option maxRecDepth 20000 in
theorem gX5_trade_X2_record : GoodIn wsX5_trade (wsV RX5 67 RX2 yX2_record wsX2_record) := goodIn_app (goodIn_of _ (by decide +kernel)) ggX5_trade_X2_record
set_option maxRecDepth 20000 in
theorem ggX5_trade_X5_tradeNow : GoodIn wsX5_trade wsX5_tradeNow := goodIn_r _ [65, 2, 66, 1, 67, 68, 69, 19, 70, 57, 71, 72, 73, 12, 74, 14, 98, 99, 100, 101, 102, 103, 104, 105, 106, 107, 108, 109, 110, 111, 112, 113, 114, 115, 116, 117, 118] rfl (by decide +kernel)
set_option maxRecDepth 20000 in
theorem gX5_trade_X5_tradeNow : GoodIn wsX5_trade (wsV RX5 118 RX5 yX5_tradeNow wsX5_tradeNow) := goodIn_app (goodIn_of _ (by decide +kernel)) ggX5_trade_X5_tradeNow
set_option maxRecDepth 20000 in
theorem ggX5_trade_X4_enviesAmong : GoodIn wsX5_trade wsX4_enviesAmong := goodIn_r _ [78, 79, 7, 80, 81, 82, 83, 12, 84, 85, 86, 87, 88, 89, 90, 91, 92, 93, 94, 95, 96, 14, 15, 97, 32, 33, 34, 35, 114, 115, 116, 117, 118, 105, 106, 107, 108, 109, 110, 111, 112, 113] rfl (by decide +kernel)
set_option maxRecDepth 20000 in
theorem gX5_trade_X4_enviesAmong : GoodIn wsX5_trade (wsV RX5 122 RX4 yX4_enviesAmong wsX4_enviesAmong) := goodIn_app (goodIn_of _ (by decide +kernel)) ggX5_trade_X4_enviesAmong
theorem dX5_trade_0 : decode cX5_trade 0 = .ok (.iload_n 1, 1) := by decide +kernel
theorem dX5_trade_1 : decode cX5_trade 1 = .ok (.invokestatic 74, 3) := by decide +kernel
theorem dX5_trade_4 : decode cX5_trade 4 = .ok (.ifCond .eq 10, 3) := by decide +kernel
theorem dX5_trade_7 : decode cX5_trade 7 = .ok (.iload_n 2, 1) := by decide +kernel
theorem dX5_trade_8 : decode cX5_trade 8 = .ok (.invokestatic 74, 3) := by decide +kernel
theorem dX5_trade_11 : decode cX5_trade 11 = .ok (.ifCond .ne 5, 3) := by decide +kernel
theorem dX5_trade_14 : decode cX5_trade 14 = .ok (.iconst (-1), 1) := by decide +kernel
theorem dX5_trade_15 : decode cX5_trade 15 = .ok (.ireturn, 1) := by decide +kernel
theorem dX5_trade_16 : decode cX5_trade 16 = .ok (.iload_n 1, 1) := by decide +kernel
theorem dX5_trade_17 : decode cX5_trade 17 = .ok (.iload_n 2, 1) := by decide +kernel
theorem dX5_trade_18 : decode cX5_trade 18 = .ok (.if_icmp .ne 6, 3) := by decide +kernel
theorem dX5_trade_21 : decode cX5_trade 21 = .ok (.bipush (-2), 2) := by decide +kernel
theorem dX5_trade_23 : decode cX5_trade 23 = .ok (.ireturn, 1) := by decide +kernel
theorem dX5_trade_24 : decode cX5_trade 24 = .ok (.aload_n 0, 1) := by decide +kernel
theorem dX5_trade_25 : decode cX5_trade 25 = .ok (.getfield 28, 3) := by decide +kernel
theorem dX5_trade_28 : decode cX5_trade 28 = .ok (.aload_n 0, 1) := by decide +kernel
theorem dX5_trade_29 : decode cX5_trade 29 = .ok (.getfield 12, 3) := by decide +kernel
theorem dX5_trade_32 : decode cX5_trade 32 = .ok (.getfield 108, 3) := by decide +kernel
theorem dX5_trade_35 : decode cX5_trade 35 = .ok (.invokevirtual 111, 3) := by decide +kernel
theorem dX5_trade_38 : decode cX5_trade 38 = .ok (.aload_n 0, 1) := by decide +kernel
theorem dX5_trade_39 : decode cX5_trade 39 = .ok (.getfield 28, 3) := by decide +kernel
theorem dX5_trade_42 : decode cX5_trade 42 = .ok (.iload_n 1, 1) := by decide +kernel
theorem dX5_trade_43 : decode cX5_trade 43 = .ok (.iload_n 2, 1) := by decide +kernel
theorem dX5_trade_44 : decode cX5_trade 44 = .ok (.invokevirtual 115, 3) := by decide +kernel
theorem dX5_trade_47 : decode cX5_trade 47 = .ok (.istore_n 3, 1) := by decide +kernel
theorem dX5_trade_48 : decode cX5_trade 48 = .ok (.iload_n 3, 1) := by decide +kernel
theorem dX5_trade_49 : decode cX5_trade 49 = .ok (.ifCond .eq 8, 3) := by decide +kernel
theorem dX5_trade_52 : decode cX5_trade 52 = .ok (.bipush (-10), 2) := by decide +kernel
theorem dX5_trade_54 : decode cX5_trade 54 = .ok (.iload_n 3, 1) := by decide +kernel
theorem dX5_trade_55 : decode cX5_trade 55 = .ok (.isub, 1) := by decide +kernel
theorem dX5_trade_56 : decode cX5_trade 56 = .ok (.ireturn, 1) := by decide +kernel
theorem dX5_trade_57 : decode cX5_trade 57 = .ok (.aload_n 0, 1) := by decide +kernel
theorem dX5_trade_58 : decode cX5_trade 58 = .ok (.getfield 42, 3) := by decide +kernel
theorem dX5_trade_61 : decode cX5_trade 61 = .ok (.aload_n 0, 1) := by decide +kernel
theorem dX5_trade_62 : decode cX5_trade 62 = .ok (.getfield 12, 3) := by decide +kernel
theorem dX5_trade_65 : decode cX5_trade 65 = .ok (.invokevirtual 67, 3) := by decide +kernel
theorem dX5_trade_68 : decode cX5_trade 68 = .ok (.aload_n 0, 1) := by decide +kernel
theorem dX5_trade_69 : decode cX5_trade 69 = .ok (.iload_n 1, 1) := by decide +kernel
theorem dX5_trade_70 : decode cX5_trade 70 = .ok (.iload_n 2, 1) := by decide +kernel
theorem dX5_trade_71 : decode cX5_trade 71 = .ok (.invokevirtual 118, 3) := by decide +kernel
theorem dX5_trade_74 : decode cX5_trade 74 = .ok (.aload_n 0, 1) := by decide +kernel
theorem dX5_trade_75 : decode cX5_trade 75 = .ok (.getfield 28, 3) := by decide +kernel
theorem dX5_trade_78 : decode cX5_trade 78 = .ok (.bipush 127, 2) := by decide +kernel
theorem dX5_trade_80 : decode cX5_trade 80 = .ok (.invokevirtual 122, 3) := by decide +kernel
theorem dX5_trade_83 : decode cX5_trade 83 = .ok (.ireturn, 1) := by decide +kernel
set_option maxRecDepth 20000 in
theorem ggX5_settle_X4_measure : GoodIn wsX5_settle wsX4_measure := goodIn_r _ [11, 12, 13, 14, 15, 16, 17, 18, 19, 20, 21, 22, 127, 128, 129, 130, 131, 118, 119, 120, 121, 122, 123, 124, 125, 126] rfl (by decide +kernel)
set_option maxRecDepth 20000 in
theorem gX5_settle_X4_measure : GoodIn wsX5_settle (wsV RX5 111 RX4 yX4_measure wsX4_measure) := goodIn_app (goodIn_of _ (by decide +kernel)) ggX5_settle_X4_measure
set_option maxRecDepth 20000 in
theorem ggX5_settle_X4_findBestTrade : GoodIn wsX5_settle wsX4_findBestTrade := goodIn_r _ [26, 27, 28, 29, 30, 31, 32, 10, 33, 13, 34, 35, 36, 37, 20, 38, 39, 40, 41, 42, 43, 12, 44, 45, 46, 47, 48, 49, 50, 51, 52, 53, 54, 55, 56, 15, 57, 58, 59, 60, 61, 62, 63, 64, 65, 66, 67, 68, 69, 70, 71, 72, 73, 74, 127, 128, 129, 130, 131, 118, 119, 120, 121, 122, 123, 124, 125, 126] rfl (by decide +kernel)
set_option maxRecDepth 20000 in
theorem gX5_settle_X4_findBestTrade : GoodIn wsX5_settle (wsV RX5 126 RX4 yX4_findBestTrade wsX4_findBestTrade) := goodIn_app (goodIn_of _ (by decide +kernel)) ggX5_settle_X4_findBestTrade
set_option maxRecDepth 20000 in
theorem ggX5_settle_X2_record : GoodIn wsX5_settle wsX2_record := goodIn_r _ [79, 80, 81, 82, 83, 84, 78, 85, 86, 87, 88, 20, 89, 90, 91, 92, 93, 94, 95, 39, 96, 97, 22, 98, 99, 100, 132, 133, 118, 119, 120, 121, 122, 123, 124, 125, 126] rfl (by decide +kernel)
set_option maxRecDepth 20000 in
theorem gX5_settle_X2_record : GoodIn wsX5_settle (wsV RX5 67 RX2 yX2_record wsX2_record) := goodIn_app (goodIn_of _ (by decide +kernel)) ggX5_settle_X2_record
set_option maxRecDepth 20000 in
theorem ggX5_settle_X5_tradeNow : GoodIn wsX5_settle wsX5_tradeNow := goodIn_r _ [104, 2, 105, 1, 106, 107, 108, 20, 109, 96, 110, 49, 50, 10, 51, 12, 111, 112, 113, 114, 115, 116, 117, 118, 119, 120, 121, 122, 123, 124, 125, 126, 127, 128, 129, 130, 131] rfl (by decide +kernel)
set_option maxRecDepth 20000 in
theorem gX5_settle_X5_tradeNow : GoodIn wsX5_settle (wsV RX5 118 RX5 yX5_tradeNow wsX5_tradeNow) := goodIn_app (goodIn_of _ (by decide +kernel)) ggX5_settle_X5_tradeNow
theorem dX5_settle_0 : decode cX5_settle 0 = .ok (.aload_n 0, 1) := by decide +kernel
theorem dX5_settle_1 : decode cX5_settle 1 = .ok (.getfield 28, 3) := by decide +kernel
theorem dX5_settle_4 : decode cX5_settle 4 = .ok (.aload_n 0, 1) := by decide +kernel
theorem dX5_settle_5 : decode cX5_settle 5 = .ok (.getfield 12, 3) := by decide +kernel
theorem dX5_settle_8 : decode cX5_settle 8 = .ok (.getfield 108, 3) := by decide +kernel
theorem dX5_settle_11 : decode cX5_settle 11 = .ok (.invokevirtual 111, 3) := by decide +kernel
theorem dX5_settle_14 : decode cX5_settle 14 = .ok (.aload_n 0, 1) := by decide +kernel
theorem dX5_settle_15 : decode cX5_settle 15 = .ok (.getfield 28, 3) := by decide +kernel
theorem dX5_settle_18 : decode cX5_settle 18 = .ok (.invokevirtual 126, 3) := by decide +kernel
theorem dX5_settle_21 : decode cX5_settle 21 = .ok (.ifCond .ne 6, 3) := by decide +kernel
theorem dX5_settle_24 : decode cX5_settle 24 = .ok (.bipush (-5), 2) := by decide +kernel
theorem dX5_settle_26 : decode cX5_settle 26 = .ok (.ireturn, 1) := by decide +kernel
theorem dX5_settle_27 : decode cX5_settle 27 = .ok (.aload_n 0, 1) := by decide +kernel
theorem dX5_settle_28 : decode cX5_settle 28 = .ok (.getfield 42, 3) := by decide +kernel
theorem dX5_settle_31 : decode cX5_settle 31 = .ok (.aload_n 0, 1) := by decide +kernel
theorem dX5_settle_32 : decode cX5_settle 32 = .ok (.getfield 12, 3) := by decide +kernel
theorem dX5_settle_35 : decode cX5_settle 35 = .ok (.invokevirtual 67, 3) := by decide +kernel
theorem dX5_settle_38 : decode cX5_settle 38 = .ok (.iconst 0, 1) := by decide +kernel
theorem dX5_settle_39 : decode cX5_settle 39 = .ok (.istore_n 1, 1) := by decide +kernel
theorem dX5_settle_40 : decode cX5_settle 40 = .ok (.aload_n 0, 1) := by decide +kernel
theorem dX5_settle_41 : decode cX5_settle 41 = .ok (.aload_n 0, 1) := by decide +kernel
theorem dX5_settle_42 : decode cX5_settle 42 = .ok (.getfield 28, 3) := by decide +kernel
theorem dX5_settle_45 : decode cX5_settle 45 = .ok (.getfield 130, 3) := by decide +kernel
theorem dX5_settle_48 : decode cX5_settle 48 = .ok (.aload_n 0, 1) := by decide +kernel
theorem dX5_settle_49 : decode cX5_settle 49 = .ok (.getfield 28, 3) := by decide +kernel
theorem dX5_settle_52 : decode cX5_settle 52 = .ok (.getfield 133, 3) := by decide +kernel
theorem dX5_settle_55 : decode cX5_settle 55 = .ok (.invokevirtual 118, 3) := by decide +kernel
theorem dX5_settle_58 : decode cX5_settle 58 = .ok (.iinc 1 1, 3) := by decide +kernel
theorem dX5_settle_61 : decode cX5_settle 61 = .ok (.iload_n 1, 1) := by decide +kernel
theorem dX5_settle_62 : decode cX5_settle 62 = .ok (.sipush 1000, 3) := by decide +kernel
theorem dX5_settle_65 : decode cX5_settle 65 = .ok (.if_icmp .ge 13, 3) := by decide +kernel
theorem dX5_settle_68 : decode cX5_settle 68 = .ok (.aload_n 0, 1) := by decide +kernel
theorem dX5_settle_69 : decode cX5_settle 69 = .ok (.getfield 28, 3) := by decide +kernel
theorem dX5_settle_72 : decode cX5_settle 72 = .ok (.invokevirtual 126, 3) := by decide +kernel
theorem dX5_settle_75 : decode cX5_settle 75 = .ok (.ifCond .ne (-35), 3) := by decide +kernel
theorem dX5_settle_78 : decode cX5_settle 78 = .ok (.iload_n 1, 1) := by decide +kernel
theorem dX5_settle_79 : decode cX5_settle 79 = .ok (.ireturn, 1) := by decide +kernel
set_option maxRecDepth 20000 in
theorem ggX5_perform_X3_countOrders : GoodIn wsX5_perform wsX3_countOrders := goodIn_r _ [9, 10, 11, 12, 13, 14, 8, 15, 16, 17, 18, 19, 20, 21, 22, 23, 24, 25, 26, 27, 28, 29, 30, 31, 32, 33, 34, 35, 36, 37, 38, 39, 40, 41, 42, 43, 44, 45, 46, 47, 48, 49, 50, 51, 52, 53, 207, 208, 209, 210, 211, 212, 213, 214] rfl (by decide +kernel)
set_option maxRecDepth 20000 in
theorem gX5_perform_X3_countOrders : GoodIn wsX5_perform (wsV RX5 143 RX3 yX3_countOrders wsX3_countOrders) := goodIn_app (goodIn_of _ (by decide +kernel)) ggX5_perform_X3_countOrders
set_option maxRecDepth 20000 in
theorem ggX5_perform_X2_record : GoodIn wsX5_perform wsX2_record := goodIn_r _ [58, 59, 60, 61, 62, 63, 57, 64, 65, 66, 67, 68, 69, 70, 71, 72, 73, 74, 75, 76, 77, 78, 79, 80, 81, 82, 215, 216, 217, 218, 219, 220, 221, 222, 223, 224, 225] rfl (by decide +kernel)
set_option maxRecDepth 20000 in
theorem gX5_perform_X2_record : GoodIn wsX5_perform (wsV RX5 67 RX2 yX2_record wsX2_record) := goodIn_app (goodIn_of _ (by decide +kernel)) ggX5_perform_X2_record
set_option maxRecDepth 20000 in
theorem ggX5_perform_X3_readOrder : GoodIn wsX5_perform wsX3_readOrder := goodIn_r _ [15, 16, 17, 18, 19, 8, 20, 10, 11, 21, 22, 23, 24, 25, 26, 27, 28, 29, 30, 31, 32, 33, 34, 35, 36, 37, 38, 39, 40, 41, 42, 43, 44, 45, 46, 47, 48, 49, 50, 51, 52, 53, 207, 208, 209, 210, 211, 212, 213, 214] rfl (by decide +kernel)
set_option maxRecDepth 20000 in
theorem gX5_perform_X3_readOrder : GoodIn wsX5_perform (wsV RX5 150 RX3 yX3_readOrder wsX3_readOrder) := goodIn_app (goodIn_of _ (by decide +kernel)) ggX5_perform_X3_readOrder
set_option maxRecDepth 20000 in
theorem ggX5_perform_X5_carryOutOrder : GoodIn wsX5_perform wsX5_carryOutOrder := goodIn_r _ [88, 1, 89, 4, 90, 91, 92, 93, 94, 95, 96, 68, 97, 70, 98, 99, 100, 101, 75, 79, 102, 103, 104, 105, 106, 107, 108, 109, 110, 111, 112, 113, 76, 114, 115, 116, 87, 117, 118, 119, 120, 121, 72, 73, 74, 122, 123, 124, 125, 126, 127, 128, 129, 130, 131, 132, 133, 134, 135, 136, 137, 138, 139, 140, 141, 142, 143, 144, 145, 78, 146, 147, 148, 149, 150, 151, 152, 153, 154, 155, 156, 157, 158, 159, 160, 161, 162, 163, 164, 165, 166, 167, 168, 169, 170, 171, 172, 173, 174, 175, 176, 177, 178, 179, 180, 181, 182, 183, 184, 185, 186, 187, 188, 189, 190, 191, 192, 193, 194, 195, 196, 197, 198, 200, 201, 202, 203, 204, 205, 206, 207, 208, 209, 210, 211, 212, 213, 214, 217, 218, 219, 220, 221, 222, 223, 224, 225, 226, 227, 228, 229, 230, 231, 232, 233] rfl (by decide +kernel)
set_option maxRecDepth 20000 in
theorem gX5_perform_X5_carryOutOrder : GoodIn wsX5_perform (wsV RX5 153 RX5 yX5_carryOutOrder wsX5_carryOutOrder) := goodIn_app (goodIn_of _ (by decide +kernel)) ggX5_perform_X5_carryOutOrder
set_option maxRecDepth 20000 in
theorem ggX5_perform_X3_readSign : GoodIn wsX5_perform wsX3_readSign := goodIn_r _ [20, 10, 11, 21, 207, 208, 209, 210, 211, 212, 213, 214] rfl (by decide +kernel)
set_option maxRecDepth 20000 in
theorem gX5_perform_X3_readSign : GoodIn wsX5_perform (wsV RX5 156 RX3 yX3_readSign wsX3_readSign) := goodIn_app (goodIn_of _ (by decide +kernel)) ggX5_perform_X3_readSign
theorem dX5_perform_0 : decode cX5_perform 0 = .ok (.aload_n 0, 1) := by decide +kernel
theorem dX5_perform_1 : decode cX5_perform 1 = .ok (.getfield 35, 3) := by decide +kernel
theorem dX5_perform_4 : decode cX5_perform 4 = .ok (.invokevirtual 143, 3) := by decide +kernel
theorem dX5_perform_7 : decode cX5_perform 7 = .ok (.istore_n 1, 1) := by decide +kernel
theorem dX5_perform_8 : decode cX5_perform 8 = .ok (.iload_n 1, 1) := by decide +kernel
theorem dX5_perform_9 : decode cX5_perform 9 = .ok (.ifCond .ne 14, 3) := by decide +kernel
theorem dX5_perform_12 : decode cX5_perform 12 = .ok (.bipush (-100), 2) := by decide +kernel
theorem dX5_perform_14 : decode cX5_perform 14 = .ok (.aload_n 0, 1) := by decide +kernel
theorem dX5_perform_15 : decode cX5_perform 15 = .ok (.getfield 35, 3) := by decide +kernel
theorem dX5_perform_18 : decode cX5_perform 18 = .ok (.getfield 147, 3) := by decide +kernel
theorem dX5_perform_21 : decode cX5_perform 21 = .ok (.isub, 1) := by decide +kernel
theorem dX5_perform_22 : decode cX5_perform 22 = .ok (.ireturn, 1) := by decide +kernel
theorem dX5_perform_23 : decode cX5_perform 23 = .ok (.aload_n 0, 1) := by decide +kernel
theorem dX5_perform_24 : decode cX5_perform 24 = .ok (.getfield 42, 3) := by decide +kernel
theorem dX5_perform_27 : decode cX5_perform 27 = .ok (.aload_n 0, 1) := by decide +kernel
theorem dX5_perform_28 : decode cX5_perform 28 = .ok (.getfield 12, 3) := by decide +kernel
theorem dX5_perform_31 : decode cX5_perform 31 = .ok (.invokevirtual 67, 3) := by decide +kernel
theorem dX5_perform_34 : decode cX5_perform 34 = .ok (.aload_n 0, 1) := by decide +kernel
theorem dX5_perform_35 : decode cX5_perform 35 = .ok (.getfield 35, 3) := by decide +kernel
theorem dX5_perform_38 : decode cX5_perform 38 = .ok (.iconst 0, 1) := by decide +kernel
theorem dX5_perform_39 : decode cX5_perform 39 = .ok (.putfield 147, 3) := by decide +kernel
theorem dX5_perform_42 : decode cX5_perform 42 = .ok (.iconst 0, 1) := by decide +kernel
theorem dX5_perform_43 : decode cX5_perform 43 = .ok (.istore_n 2, 1) := by decide +kernel
theorem dX5_perform_44 : decode cX5_perform 44 = .ok (.iload_n 2, 1) := by decide +kernel
theorem dX5_perform_45 : decode cX5_perform 45 = .ok (.iload_n 1, 1) := by decide +kernel
theorem dX5_perform_46 : decode cX5_perform 46 = .ok (.if_icmp .ge 33, 3) := by decide +kernel
theorem dX5_perform_49 : decode cX5_perform 49 = .ok (.aload_n 0, 1) := by decide +kernel
theorem dX5_perform_50 : decode cX5_perform 50 = .ok (.getfield 35, 3) := by decide +kernel
theorem dX5_perform_53 : decode cX5_perform 53 = .ok (.invokevirtual 150, 3) := by decide +kernel
theorem dX5_perform_56 : decode cX5_perform 56 = .ok (.ifCond .eq 7, 3) := by decide +kernel
theorem dX5_perform_59 : decode cX5_perform 59 = .ok (.aload_n 0, 1) := by decide +kernel
theorem dX5_perform_60 : decode cX5_perform 60 = .ok (.invokevirtual 153, 3) := by decide +kernel
theorem dX5_perform_63 : decode cX5_perform 63 = .ok (.aload_n 0, 1) := by decide +kernel
theorem dX5_perform_64 : decode cX5_perform 64 = .ok (.getfield 35, 3) := by decide +kernel
theorem dX5_perform_67 : decode cX5_perform 67 = .ok (.bipush 59, 2) := by decide +kernel
theorem dX5_perform_69 : decode cX5_perform 69 = .ok (.invokevirtual 156, 3) := by decide +kernel
theorem dX5_perform_72 : decode cX5_perform 72 = .ok (.pop, 1) := by decide +kernel
theorem dX5_perform_73 : decode cX5_perform 73 = .ok (.iinc 2 1, 3) := by decide +kernel
theorem dX5_perform_76 : decode cX5_perform 76 = .ok (.goto (-32), 3) := by decide +kernel
theorem dX5_perform_79 : decode cX5_perform 79 = .ok (.iload_n 1, 1) := by decide +kernel
theorem dX5_perform_80 : decode cX5_perform 80 = .ok (.ireturn, 1) := by decide +kernel
set_option maxRecDepth 20000 in
theorem ggX5_undo_X2_takeLatest : GoodIn wsX5_undo wsX2_takeLatest := goodIn_r _ [8, 9, 10, 11, 12, 13, 14, 15, 16, 17, 18, 19, 20, 21, 22, 23, 24, 25, 26, 27, 28, 36, 37, 38, 39, 40, 41, 42, 43, 44, 45, 46] rfl (by decide +kernel)
set_option maxRecDepth 20000 in
theorem gX5_undo_X2_takeLatest : GoodIn wsX5_undo (wsV RX5 163 RX2 yX2_takeLatest wsX2_takeLatest) := goodIn_app (goodIn_of _ (by decide +kernel)) ggX5_undo_X2_takeLatest
theorem dX5_undo_0 : decode cX5_undo 0 = .ok (.aload_n 0, 1) := by decide +kernel
theorem dX5_undo_1 : decode cX5_undo 1 = .ok (.getfield 42, 3) := by decide +kernel
theorem dX5_undo_4 : decode cX5_undo 4 = .ok (.getfield 160, 3) := by decide +kernel
theorem dX5_undo_7 : decode cX5_undo 7 = .ok (.ifCond .ne 6, 3) := by decide +kernel
theorem dX5_undo_10 : decode cX5_undo 10 = .ok (.bipush (-5), 2) := by decide +kernel
theorem dX5_undo_12 : decode cX5_undo 12 = .ok (.ireturn, 1) := by decide +kernel
theorem dX5_undo_13 : decode cX5_undo 13 = .ok (.aload_n 0, 1) := by decide +kernel
theorem dX5_undo_14 : decode cX5_undo 14 = .ok (.getfield 42, 3) := by decide +kernel
theorem dX5_undo_17 : decode cX5_undo 17 = .ok (.aload_n 0, 1) := by decide +kernel
theorem dX5_undo_18 : decode cX5_undo 18 = .ok (.getfield 12, 3) := by decide +kernel
theorem dX5_undo_21 : decode cX5_undo 21 = .ok (.invokevirtual 163, 3) := by decide +kernel
theorem dX5_undo_24 : decode cX5_undo 24 = .ok (.aload_n 0, 1) := by decide +kernel
theorem dX5_undo_25 : decode cX5_undo 25 = .ok (.getfield 42, 3) := by decide +kernel
theorem dX5_undo_28 : decode cX5_undo 28 = .ok (.getfield 160, 3) := by decide +kernel
theorem dX5_undo_31 : decode cX5_undo 31 = .ok (.ireturn, 1) := by decide +kernel
set_option maxRecDepth 20000 in
theorem ggX5_restore_X2_record : GoodIn wsX5_restore wsX2_record := goodIn_r _ [9, 10, 11, 12, 13, 14, 8, 15, 16, 17, 18, 19, 20, 21, 22, 23, 24, 25, 26, 27, 28, 29, 30, 31, 32, 33, 46, 47, 48, 49, 50, 51, 52, 53, 54, 55, 56] rfl (by decide +kernel)
set_option maxRecDepth 20000 in
theorem gX5_restore_X2_record : GoodIn wsX5_restore (wsV RX5 67 RX2 yX2_record wsX2_record) := goodIn_app (goodIn_of _ (by decide +kernel)) ggX5_restore_X2_record
set_option maxRecDepth 20000 in
theorem ggX5_restore_X1_copyFrom : GoodIn wsX5_restore wsX1_copyFrom := goodIn_r _ [20, 21, 22, 23, 24, 25, 26, 27, 28, 29, 30, 31, 32, 33, 48, 49, 50, 51, 52, 53, 54, 55, 56] rfl (by decide +kernel)
set_option maxRecDepth 20000 in
theorem gX5_restore_X1_copyFrom : GoodIn wsX5_restore (wsV RX5 166 RX1 yX1_copyFrom wsX1_copyFrom) := goodIn_app (goodIn_of _ (by decide +kernel)) ggX5_restore_X1_copyFrom
set_option maxRecDepth 20000 in
theorem ggX5_restore_X1_plotsOf : GoodIn wsX5_restore wsX1_plotsOf := goodIn_r _ [38, 28, 48, 49, 50, 51, 52, 53, 54, 55, 56] rfl (by decide +kernel)
set_option maxRecDepth 20000 in
theorem gX5_restore_X1_plotsOf : GoodIn wsX5_restore (wsV RX5 169 RX1 yX1_plotsOf wsX1_plotsOf) := goodIn_app (goodIn_of _ (by decide +kernel)) ggX5_restore_X1_plotsOf
theorem dX5_restore_0 : decode cX5_restore 0 = .ok (.aload_n 0, 1) := by decide +kernel
theorem dX5_restore_1 : decode cX5_restore 1 = .ok (.getfield 49, 3) := by decide +kernel
theorem dX5_restore_4 : decode cX5_restore 4 = .ok (.ifCond .ne 6, 3) := by decide +kernel
theorem dX5_restore_7 : decode cX5_restore 7 = .ok (.bipush (-5), 2) := by decide +kernel
theorem dX5_restore_9 : decode cX5_restore 9 = .ok (.ireturn, 1) := by decide +kernel
theorem dX5_restore_10 : decode cX5_restore 10 = .ok (.aload_n 0, 1) := by decide +kernel
theorem dX5_restore_11 : decode cX5_restore 11 = .ok (.getfield 42, 3) := by decide +kernel
theorem dX5_restore_14 : decode cX5_restore 14 = .ok (.aload_n 0, 1) := by decide +kernel
theorem dX5_restore_15 : decode cX5_restore 15 = .ok (.getfield 12, 3) := by decide +kernel
theorem dX5_restore_18 : decode cX5_restore 18 = .ok (.invokevirtual 67, 3) := by decide +kernel
theorem dX5_restore_21 : decode cX5_restore 21 = .ok (.aload_n 0, 1) := by decide +kernel
theorem dX5_restore_22 : decode cX5_restore 22 = .ok (.getfield 12, 3) := by decide +kernel
theorem dX5_restore_25 : decode cX5_restore 25 = .ok (.aload_n 0, 1) := by decide +kernel
theorem dX5_restore_26 : decode cX5_restore 26 = .ok (.getfield 46, 3) := by decide +kernel
theorem dX5_restore_29 : decode cX5_restore 29 = .ok (.invokevirtual 166, 3) := by decide +kernel
theorem dX5_restore_32 : decode cX5_restore 32 = .ok (.bipush 24, 2) := by decide +kernel
theorem dX5_restore_34 : decode cX5_restore 34 = .ok (.aload_n 0, 1) := by decide +kernel
theorem dX5_restore_35 : decode cX5_restore 35 = .ok (.getfield 12, 3) := by decide +kernel
theorem dX5_restore_38 : decode cX5_restore 38 = .ok (.bipush 7, 2) := by decide +kernel
theorem dX5_restore_40 : decode cX5_restore 40 = .ok (.invokevirtual 169, 3) := by decide +kernel
theorem dX5_restore_43 : decode cX5_restore 43 = .ok (.isub, 1) := by decide +kernel
theorem dX5_restore_44 : decode cX5_restore 44 = .ok (.ireturn, 1) := by decide +kernel
set_option maxRecDepth 20000 in
theorem ggX5_plot_X5_isPlot : GoodIn wsX5_plot wsX5_isPlot := goodIn_r _ [7] rfl (by decide +kernel)
set_option maxRecDepth 20000 in
theorem gX5_plot_X5_isPlot : GoodIn wsX5_plot (va_wsS RX5 53 yX5_isPlot wsX5_isPlot) := goodIn_app (goodIn_of _ (by decide +kernel)) ggX5_plot_X5_isPlot
set_option maxRecDepth 20000 in
theorem ggX5_plot_X1_worthOf : GoodIn wsX5_plot wsX1_worthOf := goodIn_r _ [12, 13, 21, 22, 23, 24, 25, 26, 27, 28, 29] rfl (by decide +kernel)
set_option maxRecDepth 20000 in
theorem gX5_plot_X1_worthOf : GoodIn wsX5_plot (wsV RX5 172 RX1 yX1_worthOf wsX1_worthOf) := goodIn_app (goodIn_of _ (by decide +kernel)) ggX5_plot_X1_worthOf
theorem dX5_plot_0 : decode cX5_plot 0 = .ok (.iload_n 1, 1) := by decide +kernel
theorem dX5_plot_1 : decode cX5_plot 1 = .ok (.invokestatic 53, 3) := by decide +kernel
theorem dX5_plot_4 : decode cX5_plot 4 = .ok (.ifCond .ne 5, 3) := by decide +kernel
theorem dX5_plot_7 : decode cX5_plot 7 = .ok (.iconst (-1), 1) := by decide +kernel
theorem dX5_plot_8 : decode cX5_plot 8 = .ok (.ireturn, 1) := by decide +kernel
theorem dX5_plot_9 : decode cX5_plot 9 = .ok (.iload_n 2, 1) := by decide +kernel
theorem dX5_plot_10 : decode cX5_plot 10 = .ok (.ifCond .lt 9, 3) := by decide +kernel
theorem dX5_plot_13 : decode cX5_plot 13 = .ok (.iload_n 2, 1) := by decide +kernel
theorem dX5_plot_14 : decode cX5_plot 14 = .ok (.bipush 11, 2) := by decide +kernel
theorem dX5_plot_16 : decode cX5_plot 16 = .ok (.if_icmp .le 6, 3) := by decide +kernel
theorem dX5_plot_19 : decode cX5_plot 19 = .ok (.bipush (-2), 2) := by decide +kernel
theorem dX5_plot_21 : decode cX5_plot 21 = .ok (.ireturn, 1) := by decide +kernel
theorem dX5_plot_22 : decode cX5_plot 22 = .ok (.iload_n 2, 1) := by decide +kernel
theorem dX5_plot_23 : decode cX5_plot 23 = .ok (.iconst 4, 1) := by decide +kernel
theorem dX5_plot_24 : decode cX5_plot 24 = .ok (.if_icmp .ge 17, 3) := by decide +kernel
theorem dX5_plot_27 : decode cX5_plot 27 = .ok (.aload_n 0, 1) := by decide +kernel
theorem dX5_plot_28 : decode cX5_plot 28 = .ok (.getfield 12, 3) := by decide +kernel
theorem dX5_plot_31 : decode cX5_plot 31 = .ok (.getfield 63, 3) := by decide +kernel
theorem dX5_plot_34 : decode cX5_plot 34 = .ok (.iload_n 1, 1) := by decide +kernel
theorem dX5_plot_35 : decode cX5_plot 35 = .ok (.iconst 4, 1) := by decide +kernel
theorem dX5_plot_36 : decode cX5_plot 36 = .ok (.imul, 1) := by decide +kernel
theorem dX5_plot_37 : decode cX5_plot 37 = .ok (.iload_n 2, 1) := by decide +kernel
theorem dX5_plot_38 : decode cX5_plot 38 = .ok (.iadd, 1) := by decide +kernel
theorem dX5_plot_39 : decode cX5_plot 39 = .ok (.iaload, 1) := by decide +kernel
theorem dX5_plot_40 : decode cX5_plot 40 = .ok (.ireturn, 1) := by decide +kernel
theorem dX5_plot_41 : decode cX5_plot 41 = .ok (.iload_n 2, 1) := by decide +kernel
theorem dX5_plot_42 : decode cX5_plot 42 = .ok (.iconst 4, 1) := by decide +kernel
theorem dX5_plot_43 : decode cX5_plot 43 = .ok (.if_icmp .ne 13, 3) := by decide +kernel
theorem dX5_plot_46 : decode cX5_plot 46 = .ok (.aload_n 0, 1) := by decide +kernel
theorem dX5_plot_47 : decode cX5_plot 47 = .ok (.getfield 12, 3) := by decide +kernel
theorem dX5_plot_50 : decode cX5_plot 50 = .ok (.getfield 108, 3) := by decide +kernel
theorem dX5_plot_53 : decode cX5_plot 53 = .ok (.iload_n 1, 1) := by decide +kernel
theorem dX5_plot_54 : decode cX5_plot 54 = .ok (.iaload, 1) := by decide +kernel
theorem dX5_plot_55 : decode cX5_plot 55 = .ok (.ireturn, 1) := by decide +kernel
theorem dX5_plot_56 : decode cX5_plot 56 = .ok (.aload_n 0, 1) := by decide +kernel
