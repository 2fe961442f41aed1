theorem dX1_exchange_23 : decode cX1_exchange 23 = .ok (.iload_n 2, 1) := by decide +kernel
theorem dX1_exchange_24 : decode cX1_exchange 24 = .ok (.iastore, 1) := by decide +kernel
theorem dX1_exchange_25 : decode cX1_exchange 25 = .ok (.goto 20, 3) := by decide +kernel
theorem dX1_exchange_28 : decode cX1_exchange 28 = .ok (.aload_n 0, 1) := by decide +kernel
theorem dX1_exchange_29 : decode cX1_exchange 29 = .ok (.getfield 21, 3) := by decide +kernel
theorem dX1_exchange_32 : decode cX1_exchange 32 = .ok (.iload_n 3, 1) := by decide +kernel
theorem dX1_exchange_33 : decode cX1_exchange 33 = .ok (.iaload, 1) := by decide +kernel
theorem dX1_exchange_34 : decode cX1_exchange 34 = .ok (.iload_n 2, 1) := by decide +kernel
theorem dX1_exchange_35 : decode cX1_exchange 35 = .ok (.if_icmp .ne 10, 3) := by decide +kernel
theorem dX1_exchange_38 : decode cX1_exchange 38 = .ok (.aload_n 0, 1) := by decide +kernel
theorem dX1_exchange_39 : decode cX1_exchange 39 = .ok (.getfield 21, 3) := by decide +kernel
theorem dX1_exchange_42 : decode cX1_exchange 42 = .ok (.iload_n 3, 1) := by decide +kernel
theorem dX1_exchange_43 : decode cX1_exchange 43 = .ok (.iload_n 1, 1) := by decide +kernel
theorem dX1_exchange_44 : decode cX1_exchange 44 = .ok (.iastore, 1) := by decide +kernel
theorem dX1_exchange_45 : decode cX1_exchange 45 = .ok (.iinc 3 1, 3) := by decide +kernel
theorem dX1_exchange_48 : decode cX1_exchange 48 = .ok (.goto (-46), 3) := by decide +kernel
theorem dX1_exchange_51 : decode cX1_exchange 51 = .ok (.return_, 1) := by decide +kernel
set_option maxRecDepth 20000 in
theorem ggX2_init_X1_init : GoodIn wsX2_init wsX1_init := goodIn_r _ [10, 11, 2, 3, 12, 13, 14, 15, 16, 17, 18, 19, 20, 21, 7, 22, 23, 24, 25, 26, 29, 30, 31, 32, 33, 34, 35, 36, 37] rfl (by decide +kernel)
set_option maxRecDepth 20000 in
theorem gX2_init_X1_init : GoodIn wsX2_init (wsX1_init) := ggX2_init_X1_init
theorem dX2_init_0 : decode cX2_init 0 = .ok (.aload_n 0, 1) := by decide +kernel
theorem dX2_init_1 : decode cX2_init 1 = .ok (.invokespecial 3, 3) := by decide +kernel
theorem dX2_init_4 : decode cX2_init 4 = .ok (.aload_n 0, 1) := by decide +kernel
theorem dX2_init_5 : decode cX2_init 5 = .ok (.iconst 4, 1) := by decide +kernel
theorem dX2_init_6 : decode cX2_init 6 = .ok (.anewarray 9, 3) := by decide +kernel
theorem dX2_init_9 : decode cX2_init 9 = .ok (.putfield 11, 3) := by decide +kernel
theorem dX2_init_12 : decode cX2_init 12 = .ok (.iconst 0, 1) := by decide +kernel
theorem dX2_init_13 : decode cX2_init 13 = .ok (.istore_n 1, 1) := by decide +kernel
theorem dX2_init_14 : decode cX2_init 14 = .ok (.iload_n 1, 1) := by decide +kernel
theorem dX2_init_15 : decode cX2_init 15 = .ok (.iconst 4, 1) := by decide +kernel
theorem dX2_init_16 : decode cX2_init 16 = .ok (.if_icmp .ge 22, 3) := by decide +kernel
theorem dX2_init_19 : decode cX2_init 19 = .ok (.aload_n 0, 1) := by decide +kernel
theorem dX2_init_20 : decode cX2_init 20 = .ok (.getfield 11, 3) := by decide +kernel
theorem dX2_init_23 : decode cX2_init 23 = .ok (.iload_n 1, 1) := by decide +kernel
theorem dX2_init_24 : decode cX2_init 24 = .ok (.new 9, 3) := by decide +kernel
theorem dX2_init_27 : decode cX2_init 27 = .ok (.dup, 1) := by decide +kernel
theorem dX2_init_28 : decode cX2_init 28 = .ok (.invokespecial 17, 3) := by decide +kernel
theorem dX2_init_31 : decode cX2_init 31 = .ok (.aastore, 1) := by decide +kernel
theorem dX2_init_32 : decode cX2_init 32 = .ok (.iinc 1 1, 3) := by decide +kernel
theorem dX2_init_35 : decode cX2_init 35 = .ok (.goto (-21), 3) := by decide +kernel
theorem dX2_init_38 : decode cX2_init 38 = .ok (.return_, 1) := by decide +kernel
set_option maxRecDepth 20000 in
theorem ggX2_record_X2_dropOldest : GoodIn wsX2_record wsX2_dropOldest := goodIn_r _ [7, 2, 1, 26, 27] rfl (by decide +kernel)
set_option maxRecDepth 20000 in
theorem gX2_record_X2_dropOldest : GoodIn wsX2_record (wsV RX2 22 RX2 yX2_dropOldest wsX2_dropOldest) := goodIn_app (goodIn_of _ (by decide +kernel)) ggX2_record_X2_dropOldest
set_option maxRecDepth 20000 in
theorem ggX2_record_X1_copyFrom : GoodIn wsX2_record wsX1_copyFrom := goodIn_r _ [12, 13, 14, 15, 16, 17, 18, 19, 20, 21, 22, 23, 24, 25, 28, 29, 30, 31, 32, 33, 34, 35, 36] rfl (by decide +kernel)
set_option maxRecDepth 20000 in
theorem gX2_record_X1_copyFrom : GoodIn wsX2_record (wsV RX2 25 RX1 yX1_copyFrom wsX1_copyFrom) := goodIn_app (goodIn_of _ (by decide +kernel)) ggX2_record_X1_copyFrom
theorem dX2_record_0 : decode cX2_record 0 = .ok (.aload_n 0, 1) := by decide +kernel
theorem dX2_record_1 : decode cX2_record 1 = .ok (.getfield 18, 3) := by decide +kernel
theorem dX2_record_4 : decode cX2_record 4 = .ok (.iconst 4, 1) := by decide +kernel
theorem dX2_record_5 : decode cX2_record 5 = .ok (.if_icmp .lt 7, 3) := by decide +kernel
theorem dX2_record_8 : decode cX2_record 8 = .ok (.aload_n 0, 1) := by decide +kernel
theorem dX2_record_9 : decode cX2_record 9 = .ok (.invokevirtual 22, 3) := by decide +kernel
theorem dX2_record_12 : decode cX2_record 12 = .ok (.aload_n 0, 1) := by decide +kernel
theorem dX2_record_13 : decode cX2_record 13 = .ok (.getfield 11, 3) := by decide +kernel
theorem dX2_record_16 : decode cX2_record 16 = .ok (.aload_n 0, 1) := by decide +kernel
theorem dX2_record_17 : decode cX2_record 17 = .ok (.getfield 18, 3) := by decide +kernel
theorem dX2_record_20 : decode cX2_record 20 = .ok (.aaload, 1) := by decide +kernel
theorem dX2_record_21 : decode cX2_record 21 = .ok (.aload_n 1, 1) := by decide +kernel
theorem dX2_record_22 : decode cX2_record 22 = .ok (.invokevirtual 25, 3) := by decide +kernel
theorem dX2_record_25 : decode cX2_record 25 = .ok (.aload_n 0, 1) := by decide +kernel
theorem dX2_record_26 : decode cX2_record 26 = .ok (.dup, 1) := by decide +kernel
theorem dX2_record_27 : decode cX2_record 27 = .ok (.getfield 18, 3) := by decide +kernel
theorem dX2_record_30 : decode cX2_record 30 = .ok (.iconst 1, 1) := by decide +kernel
theorem dX2_record_31 : decode cX2_record 31 = .ok (.iadd, 1) := by decide +kernel
theorem dX2_record_32 : decode cX2_record 32 = .ok (.putfield 18, 3) := by decide +kernel
theorem dX2_record_35 : decode cX2_record 35 = .ok (.return_, 1) := by decide +kernel
set_option maxRecDepth 20000 in
theorem ggX2_takeLatest_X1_copyFrom : GoodIn wsX2_takeLatest wsX1_copyFrom := goodIn_r _ [7, 8, 9, 10, 11, 12, 13, 14, 15, 16, 17, 18, 19, 20, 23, 24, 25, 26, 27, 28, 29, 30, 31] rfl (by decide +kernel)
set_option maxRecDepth 20000 in
theorem gX2_takeLatest_X1_copyFrom : GoodIn wsX2_takeLatest (wsV RX2 25 RX1 yX1_copyFrom wsX1_copyFrom) := goodIn_app (goodIn_of _ (by decide +kernel)) ggX2_takeLatest_X1_copyFrom
theorem dX2_takeLatest_0 : decode cX2_takeLatest 0 = .ok (.aload_n 0, 1) := by decide +kernel
theorem dX2_takeLatest_1 : decode cX2_takeLatest 1 = .ok (.getfield 18, 3) := by decide +kernel
theorem dX2_takeLatest_4 : decode cX2_takeLatest 4 = .ok (.ifCond .le 26, 3) := by decide +kernel
theorem dX2_takeLatest_7 : decode cX2_takeLatest 7 = .ok (.aload_n 0, 1) := by decide +kernel
theorem dX2_takeLatest_8 : decode cX2_takeLatest 8 = .ok (.dup, 1) := by decide +kernel
theorem dX2_takeLatest_9 : decode cX2_takeLatest 9 = .ok (.getfield 18, 3) := by decide +kernel
theorem dX2_takeLatest_12 : decode cX2_takeLatest 12 = .ok (.iconst 1, 1) := by decide +kernel
theorem dX2_takeLatest_13 : decode cX2_takeLatest 13 = .ok (.isub, 1) := by decide +kernel
theorem dX2_takeLatest_14 : decode cX2_takeLatest 14 = .ok (.putfield 18, 3) := by decide +kernel
theorem dX2_takeLatest_17 : decode cX2_takeLatest 17 = .ok (.aload_n 1, 1) := by decide +kernel
theorem dX2_takeLatest_18 : decode cX2_takeLatest 18 = .ok (.aload_n 0, 1) := by decide +kernel
theorem dX2_takeLatest_19 : decode cX2_takeLatest 19 = .ok (.getfield 11, 3) := by decide +kernel
theorem dX2_takeLatest_22 : decode cX2_takeLatest 22 = .ok (.aload_n 0, 1) := by decide +kernel
theorem dX2_takeLatest_23 : decode cX2_takeLatest 23 = .ok (.getfield 18, 3) := by decide +kernel
theorem dX2_takeLatest_26 : decode cX2_takeLatest 26 = .ok (.aaload, 1) := by decide +kernel
theorem dX2_takeLatest_27 : decode cX2_takeLatest 27 = .ok (.invokevirtual 25, 3) := by decide +kernel
theorem dX2_takeLatest_30 : decode cX2_takeLatest 30 = .ok (.return_, 1) := by decide +kernel
theorem dX2_dropOldest_0 : decode cX2_dropOldest 0 = .ok (.aload_n 0, 1) := by decide +kernel
theorem dX2_dropOldest_1 : decode cX2_dropOldest 1 = .ok (.getfield 11, 3) := by decide +kernel
theorem dX2_dropOldest_4 : decode cX2_dropOldest 4 = .ok (.iconst 0, 1) := by decide +kernel
theorem dX2_dropOldest_5 : decode cX2_dropOldest 5 = .ok (.aaload, 1) := by decide +kernel
theorem dX2_dropOldest_6 : decode cX2_dropOldest 6 = .ok (.astore_n 1, 1) := by decide +kernel
theorem dX2_dropOldest_7 : decode cX2_dropOldest 7 = .ok (.iconst 1, 1) := by decide +kernel
theorem dX2_dropOldest_8 : decode cX2_dropOldest 8 = .ok (.istore_n 2, 1) := by decide +kernel
theorem dX2_dropOldest_9 : decode cX2_dropOldest 9 = .ok (.iload_n 2, 1) := by decide +kernel
theorem dX2_dropOldest_10 : decode cX2_dropOldest 10 = .ok (.iconst 4, 1) := by decide +kernel
theorem dX2_dropOldest_11 : decode cX2_dropOldest 11 = .ok (.if_icmp .ge 23, 3) := by decide +kernel
theorem dX2_dropOldest_14 : decode cX2_dropOldest 14 = .ok (.aload_n 0, 1) := by decide +kernel
theorem dX2_dropOldest_15 : decode cX2_dropOldest 15 = .ok (.getfield 11, 3) := by decide +kernel
theorem dX2_dropOldest_18 : decode cX2_dropOldest 18 = .ok (.iload_n 2, 1) := by decide +kernel
theorem dX2_dropOldest_19 : decode cX2_dropOldest 19 = .ok (.iconst 1, 1) := by decide +kernel
theorem dX2_dropOldest_20 : decode cX2_dropOldest 20 = .ok (.isub, 1) := by decide +kernel
theorem dX2_dropOldest_21 : decode cX2_dropOldest 21 = .ok (.aload_n 0, 1) := by decide +kernel
theorem dX2_dropOldest_22 : decode cX2_dropOldest 22 = .ok (.getfield 11, 3) := by decide +kernel
theorem dX2_dropOldest_25 : decode cX2_dropOldest 25 = .ok (.iload_n 2, 1) := by decide +kernel
theorem dX2_dropOldest_26 : decode cX2_dropOldest 26 = .ok (.aaload, 1) := by decide +kernel
theorem dX2_dropOldest_27 : decode cX2_dropOldest 27 = .ok (.aastore, 1) := by decide +kernel
theorem dX2_dropOldest_28 : decode cX2_dropOldest 28 = .ok (.iinc 2 1, 3) := by decide +kernel
theorem dX2_dropOldest_31 : decode cX2_dropOldest 31 = .ok (.goto (-22), 3) := by decide +kernel
theorem dX2_dropOldest_34 : decode cX2_dropOldest 34 = .ok (.aload_n 0, 1) := by decide +kernel
theorem dX2_dropOldest_35 : decode cX2_dropOldest 35 = .ok (.getfield 11, 3) := by decide +kernel
theorem dX2_dropOldest_38 : decode cX2_dropOldest 38 = .ok (.iconst 3, 1) := by decide +kernel
theorem dX2_dropOldest_39 : decode cX2_dropOldest 39 = .ok (.aload_n 1, 1) := by decide +kernel
theorem dX2_dropOldest_40 : decode cX2_dropOldest 40 = .ok (.aastore, 1) := by decide +kernel
theorem dX2_dropOldest_41 : decode cX2_dropOldest 41 = .ok (.aload_n 0, 1) := by decide +kernel
theorem dX2_dropOldest_42 : decode cX2_dropOldest 42 = .ok (.dup, 1) := by decide +kernel
theorem dX2_dropOldest_43 : decode cX2_dropOldest 43 = .ok (.getfield 18, 3) := by decide +kernel
theorem dX2_dropOldest_46 : decode cX2_dropOldest 46 = .ok (.iconst 1, 1) := by decide +kernel
theorem dX2_dropOldest_47 : decode cX2_dropOldest 47 = .ok (.isub, 1) := by decide +kernel
theorem dX2_dropOldest_48 : decode cX2_dropOldest 48 = .ok (.putfield 18, 3) := by decide +kernel
theorem dX2_dropOldest_51 : decode cX2_dropOldest 51 = .ok (.return_, 1) := by decide +kernel
theorem dX3_init_0 : decode cX3_init 0 = .ok (.aload_n 0, 1) := by decide +kernel
theorem dX3_init_1 : decode cX3_init 1 = .ok (.invokespecial 3, 3) := by decide +kernel
theorem dX3_init_4 : decode cX3_init 4 = .ok (.aload_n 0, 1) := by decide +kernel
theorem dX3_init_5 : decode cX3_init 5 = .ok (.iconst 4, 1) := by decide +kernel
theorem dX3_init_6 : decode cX3_init 6 = .ok (.newarray .int, 2) := by decide +kernel
theorem dX3_init_8 : decode cX3_init 8 = .ok (.putfield 9, 3) := by decide +kernel
theorem dX3_init_11 : decode cX3_init 11 = .ok (.aload_n 0, 1) := by decide +kernel
theorem dX3_init_12 : decode cX3_init 12 = .ok (.bipush 60, 2) := by decide +kernel
theorem dX3_init_14 : decode cX3_init 14 = .ok (.newarray .char, 2) := by decide +kernel
theorem dX3_init_16 : decode cX3_init 16 = .ok (.putfield 15, 3) := by decide +kernel
theorem dX3_init_19 : decode cX3_init 19 = .ok (.return_, 1) := by decide +kernel
set_option maxRecDepth 20000 in
theorem ggX3_countOrders_X3_readOrder : GoodIn wsX3_countOrders wsX3_readOrder := goodIn_r _ [7, 8, 9, 10, 11, 6, 12, 1, 2, 13, 14, 15, 16, 17, 18, 19, 20, 21, 22, 23, 24, 25, 26, 27, 28, 29, 30, 31, 32, 33, 34, 35, 36, 37, 38, 39, 40, 41, 42, 43, 44, 45, 46, 47, 48, 49, 50, 51, 52, 53] rfl (by decide +kernel)
set_option maxRecDepth 20000 in
theorem gX3_countOrders_X3_readOrder : GoodIn wsX3_countOrders (wsV RX3 26 RX3 yX3_readOrder wsX3_readOrder) := goodIn_app (goodIn_of _ (by decide +kernel)) ggX3_countOrders_X3_readOrder
set_option maxRecDepth 20000 in
theorem ggX3_countOrders_X3_readSign : GoodIn wsX3_countOrders wsX3_readSign := goodIn_r _ [12, 1, 2, 13, 46, 47, 48, 49, 50, 51, 52, 53] rfl (by decide +kernel)
set_option maxRecDepth 20000 in
theorem gX3_countOrders_X3_readSign : GoodIn wsX3_countOrders (wsV RX3 30 RX3 yX3_readSign wsX3_readSign) := goodIn_app (goodIn_of _ (by decide +kernel)) ggX3_countOrders_X3_readSign
theorem dX3_countOrders_0 : decode cX3_countOrders 0 = .ok (.aload_n 0, 1) := by decide +kernel
theorem dX3_countOrders_1 : decode cX3_countOrders 1 = .ok (.iconst 0, 1) := by decide +kernel
theorem dX3_countOrders_2 : decode cX3_countOrders 2 = .ok (.putfield 23, 3) := by decide +kernel
theorem dX3_countOrders_5 : decode cX3_countOrders 5 = .ok (.iconst 1, 1) := by decide +kernel
theorem dX3_countOrders_6 : decode cX3_countOrders 6 = .ok (.istore_n 1, 1) := by decide +kernel
theorem dX3_countOrders_7 : decode cX3_countOrders 7 = .ok (.iload_n 1, 1) := by decide +kernel
theorem dX3_countOrders_8 : decode cX3_countOrders 8 = .ok (.bipush 60, 2) := by decide +kernel
theorem dX3_countOrders_10 : decode cX3_countOrders 10 = .ok (.if_icmp .gt 42, 3) := by decide +kernel
theorem dX3_countOrders_13 : decode cX3_countOrders 13 = .ok (.aload_n 0, 1) := by decide +kernel
theorem dX3_countOrders_14 : decode cX3_countOrders 14 = .ok (.invokevirtual 26, 3) := by decide +kernel
theorem dX3_countOrders_17 : decode cX3_countOrders 17 = .ok (.ifCond .ne 5, 3) := by decide +kernel
theorem dX3_countOrders_20 : decode cX3_countOrders 20 = .ok (.iconst 0, 1) := by decide +kernel
theorem dX3_countOrders_21 : decode cX3_countOrders 21 = .ok (.ireturn, 1) := by decide +kernel
theorem dX3_countOrders_22 : decode cX3_countOrders 22 = .ok (.aload_n 0, 1) := by decide +kernel
theorem dX3_countOrders_23 : decode cX3_countOrders 23 = .ok (.getfield 23, 3) := by decide +kernel
theorem dX3_countOrders_26 : decode cX3_countOrders 26 = .ok (.aload_n 0, 1) := by decide +kernel
theorem dX3_countOrders_27 : decode cX3_countOrders 27 = .ok (.getfield 19, 3) := by decide +kernel
theorem dX3_countOrders_30 : decode cX3_countOrders 30 = .ok (.if_icmp .ne 5, 3) := by decide +kernel
theorem dX3_countOrders_33 : decode cX3_countOrders 33 = .ok (.iload_n 1, 1) := by decide +kernel
theorem dX3_countOrders_34 : decode cX3_countOrders 34 = .ok (.ireturn, 1) := by decide +kernel
theorem dX3_countOrders_35 : decode cX3_countOrders 35 = .ok (.aload_n 0, 1) := by decide +kernel
theorem dX3_countOrders_36 : decode cX3_countOrders 36 = .ok (.bipush 59, 2) := by decide +kernel
theorem dX3_countOrders_38 : decode cX3_countOrders 38 = .ok (.invokevirtual 30, 3) := by decide +kernel
theorem dX3_countOrders_41 : decode cX3_countOrders 41 = .ok (.ifCond .ne 5, 3) := by decide +kernel
theorem dX3_countOrders_44 : decode cX3_countOrders 44 = .ok (.iconst 0, 1) := by decide +kernel
theorem dX3_countOrders_45 : decode cX3_countOrders 45 = .ok (.ireturn, 1) := by decide +kernel
theorem dX3_countOrders_46 : decode cX3_countOrders 46 = .ok (.iinc 1 1, 3) := by decide +kernel
theorem dX3_countOrders_49 : decode cX3_countOrders 49 = .ok (.goto (-42), 3) := by decide +kernel
theorem dX3_countOrders_52 : decode cX3_countOrders 52 = .ok (.iconst 0, 1) := by decide +kernel
theorem dX3_countOrders_53 : decode cX3_countOrders 53 = .ok (.ireturn, 1) := by decide +kernel
set_option maxRecDepth 20000 in
theorem ggX3_readOrder_X3_readSign : GoodIn wsX3_readOrder wsX3_readSign := goodIn_r _ [6, 7, 8, 9, 42, 43, 44, 45, 46, 47, 48, 49] rfl (by decide +kernel)
set_option maxRecDepth 20000 in
theorem gX3_readOrder_X3_readSign : GoodIn wsX3_readOrder (wsV RX3 30 RX3 yX3_readSign wsX3_readSign) := goodIn_app (goodIn_of _ (by decide +kernel)) ggX3_readOrder_X3_readSign
set_option maxRecDepth 20000 in
theorem ggX3_readOrder_X3_readPlot : GoodIn wsX3_readOrder wsX3_readPlot := goodIn_r _ [13, 14, 15, 16, 17, 18, 19, 20, 21, 5, 22, 7, 8, 9, 42, 43, 44, 45, 46, 47, 48, 49] rfl (by decide +kernel)
set_option maxRecDepth 20000 in
theorem gX3_readOrder_X3_readPlot : GoodIn wsX3_readOrder (wsV RX3 37 RX3 yX3_readPlot wsX3_readPlot) := goodIn_app (goodIn_of _ (by decide +kernel)) ggX3_readOrder_X3_readPlot
set_option maxRecDepth 20000 in
theorem ggX3_readOrder_X3_readDigits : GoodIn wsX3_readOrder wsX3_readDigits := goodIn_r _ [26, 27, 19, 20, 21, 5, 22, 7, 8, 9, 42, 43, 44, 45, 46, 47, 48, 49] rfl (by decide +kernel)
set_option maxRecDepth 20000 in
theorem gX3_readOrder_X3_readDigits : GoodIn wsX3_readOrder (wsV RX3 40 RX3 yX3_readDigits wsX3_readDigits) := goodIn_app (goodIn_of _ (by decide +kernel)) ggX3_readOrder_X3_readDigits
set_option maxRecDepth 20000 in
theorem ggX3_readOrder_X3_readCousin : GoodIn wsX3_readOrder wsX3_readCousin := goodIn_r _ [31, 14, 19, 20, 21, 5, 22, 7, 8, 9, 42, 43, 44, 45, 46, 47, 48, 49] rfl (by decide +kernel)
set_option maxRecDepth 20000 in
theorem gX3_readOrder_X3_readCousin : GoodIn wsX3_readOrder (wsV RX3 44 RX3 yX3_readCousin wsX3_readCousin) := goodIn_app (goodIn_of _ (by decide +kernel)) ggX3_readOrder_X3_readCousin
set_option maxRecDepth 20000 in
theorem ggX3_readOrder_X3_readOther : GoodIn wsX3_readOrder wsX3_readOther := goodIn_r _ [35, 14, 36, 19, 20, 21, 5, 22, 7, 8, 9, 42, 43, 44, 45, 46, 47, 48, 49] rfl (by decide +kernel)
set_option maxRecDepth 20000 in
theorem gX3_readOrder_X3_readOther : GoodIn wsX3_readOrder (wsV RX3 47 RX3 yX3_readOther wsX3_readOther) := goodIn_app (goodIn_of _ (by decide +kernel)) ggX3_readOrder_X3_readOther
set_option maxRecDepth 20000 in
theorem ggX3_readOrder_X3_readParty : GoodIn wsX3_readOrder wsX3_readParty := goodIn_r _ [40, 41, 19, 20, 21, 5, 22, 7, 8, 9, 42, 43, 44, 45, 46, 47, 48, 49] rfl (by decide +kernel)
set_option maxRecDepth 20000 in
theorem gX3_readOrder_X3_readParty : GoodIn wsX3_readOrder (wsV RX3 50 RX3 yX3_readParty wsX3_readParty) := goodIn_app (goodIn_of _ (by decide +kernel)) ggX3_readOrder_X3_readParty
theorem dX3_readOrder_0 : decode cX3_readOrder 0 = .ok (.aload_n 0, 1) := by decide +kernel
theorem dX3_readOrder_1 : decode cX3_readOrder 1 = .ok (.bipush 112, 2) := by decide +kernel
theorem dX3_readOrder_3 : decode cX3_readOrder 3 = .ok (.invokevirtual 30, 3) := by decide +kernel
theorem dX3_readOrder_6 : decode cX3_readOrder 6 = .ok (.ifCond .eq 38, 3) := by decide +kernel
theorem dX3_readOrder_9 : decode cX3_readOrder 9 = .ok (.aload_n 0, 1) := by decide +kernel
theorem dX3_readOrder_10 : decode cX3_readOrder 10 = .ok (.iconst 0, 1) := by decide +kernel
theorem dX3_readOrder_11 : decode cX3_readOrder 11 = .ok (.putfield 34, 3) := by decide +kernel
theorem dX3_readOrder_14 : decode cX3_readOrder 14 = .ok (.aload_n 0, 1) := by decide +kernel
theorem dX3_readOrder_15 : decode cX3_readOrder 15 = .ok (.invokevirtual 37, 3) := by decide +kernel
theorem dX3_readOrder_18 : decode cX3_readOrder 18 = .ok (.ifCond .eq 24, 3) := by decide +kernel
theorem dX3_readOrder_21 : decode cX3_readOrder 21 = .ok (.aload_n 0, 1) := by decide +kernel
theorem dX3_readOrder_22 : decode cX3_readOrder 22 = .ok (.bipush 61, 2) := by decide +kernel
theorem dX3_readOrder_24 : decode cX3_readOrder 24 = .ok (.invokevirtual 30, 3) := by decide +kernel
theorem dX3_readOrder_27 : decode cX3_readOrder 27 = .ok (.ifCond .eq 15, 3) := by decide +kernel
theorem dX3_readOrder_30 : decode cX3_readOrder 30 = .ok (.aload_n 0, 1) := by decide +kernel
theorem dX3_readOrder_31 : decode cX3_readOrder 31 = .ok (.iconst 4, 1) := by decide +kernel
theorem dX3_readOrder_32 : decode cX3_readOrder 32 = .ok (.invokevirtual 40, 3) := by decide +kernel
theorem dX3_readOrder_35 : decode cX3_readOrder 35 = .ok (.ifCond .eq 7, 3) := by decide +kernel
theorem dX3_readOrder_38 : decode cX3_readOrder 38 = .ok (.iconst 1, 1) := by decide +kernel
theorem dX3_readOrder_39 : decode cX3_readOrder 39 = .ok (.goto 4, 3) := by decide +kernel
theorem dX3_readOrder_42 : decode cX3_readOrder 42 = .ok (.iconst 0, 1) := by decide +kernel
theorem dX3_readOrder_43 : decode cX3_readOrder 43 = .ok (.ireturn, 1) := by decide +kernel
theorem dX3_readOrder_44 : decode cX3_readOrder 44 = .ok (.aload_n 0, 1) := by decide +kernel
theorem dX3_readOrder_45 : decode cX3_readOrder 45 = .ok (.bipush 119, 2) := by decide +kernel
theorem dX3_readOrder_47 : decode cX3_readOrder 47 = .ok (.invokevirtual 30, 3) := by decide +kernel
theorem dX3_readOrder_50 : decode cX3_readOrder 50 = .ok (.ifCond .eq 38, 3) := by decide +kernel
theorem dX3_readOrder_53 : decode cX3_readOrder 53 = .ok (.aload_n 0, 1) := by decide +kernel
theorem dX3_readOrder_54 : decode cX3_readOrder 54 = .ok (.iconst 1, 1) := by decide +kernel
theorem dX3_readOrder_55 : decode cX3_readOrder 55 = .ok (.putfield 34, 3) := by decide +kernel
theorem dX3_readOrder_58 : decode cX3_readOrder 58 = .ok (.aload_n 0, 1) := by decide +kernel
theorem dX3_readOrder_59 : decode cX3_readOrder 59 = .ok (.invokevirtual 44, 3) := by decide +kernel
theorem dX3_readOrder_62 : decode cX3_readOrder 62 = .ok (.ifCond .eq 24, 3) := by decide +kernel
theorem dX3_readOrder_65 : decode cX3_readOrder 65 = .ok (.aload_n 0, 1) := by decide +kernel
theorem dX3_readOrder_66 : decode cX3_readOrder 66 = .ok (.bipush 61, 2) := by decide +kernel
theorem dX3_readOrder_68 : decode cX3_readOrder 68 = .ok (.invokevirtual 30, 3) := by decide +kernel
theorem dX3_readOrder_71 : decode cX3_readOrder 71 = .ok (.ifCond .eq 15, 3) := by decide +kernel
theorem dX3_readOrder_74 : decode cX3_readOrder 74 = .ok (.aload_n 0, 1) := by decide +kernel
theorem dX3_readOrder_75 : decode cX3_readOrder 75 = .ok (.iconst 4, 1) := by decide +kernel
theorem dX3_readOrder_76 : decode cX3_readOrder 76 = .ok (.invokevirtual 40, 3) := by decide +kernel
theorem dX3_readOrder_79 : decode cX3_readOrder 79 = .ok (.ifCond .eq 7, 3) := by decide +kernel
theorem dX3_readOrder_82 : decode cX3_readOrder 82 = .ok (.iconst 1, 1) := by decide +kernel
theorem dX3_readOrder_83 : decode cX3_readOrder 83 = .ok (.goto 4, 3) := by decide +kernel
theorem dX3_readOrder_86 : decode cX3_readOrder 86 = .ok (.iconst 0, 1) := by decide +kernel
theorem dX3_readOrder_87 : decode cX3_readOrder 87 = .ok (.ireturn, 1) := by decide +kernel
theorem dX3_readOrder_88 : decode cX3_readOrder 88 = .ok (.aload_n 0, 1) := by decide +kernel
theorem dX3_readOrder_89 : decode cX3_readOrder 89 = .ok (.bipush 103, 2) := by decide +kernel
theorem dX3_readOrder_91 : decode cX3_readOrder 91 = .ok (.invokevirtual 30, 3) := by decide +kernel
theorem dX3_readOrder_94 : decode cX3_readOrder 94 = .ok (.ifCond .eq 45, 3) := by decide +kernel
theorem dX3_readOrder_97 : decode cX3_readOrder 97 = .ok (.aload_n 0, 1) := by decide +kernel
theorem dX3_readOrder_98 : decode cX3_readOrder 98 = .ok (.iconst 2, 1) := by decide +kernel
theorem dX3_readOrder_99 : decode cX3_readOrder 99 = .ok (.putfield 34, 3) := by decide +kernel
theorem dX3_readOrder_102 : decode cX3_readOrder 102 = .ok (.aload_n 0, 1) := by decide +kernel
theorem dX3_readOrder_103 : decode cX3_readOrder 103 = .ok (.invokevirtual 44, 3) := by decide +kernel
theorem dX3_readOrder_106 : decode cX3_readOrder 106 = .ok (.ifCond .eq 31, 3) := by decide +kernel
theorem dX3_readOrder_109 : decode cX3_readOrder 109 = .ok (.aload_n 0, 1) := by decide +kernel
theorem dX3_readOrder_110 : decode cX3_readOrder 110 = .ok (.invokevirtual 47, 3) := by decide +kernel
theorem dX3_readOrder_113 : decode cX3_readOrder 113 = .ok (.ifCond .eq 24, 3) := by decide +kernel
theorem dX3_readOrder_116 : decode cX3_readOrder 116 = .ok (.aload_n 0, 1) := by decide +kernel
theorem dX3_readOrder_117 : decode cX3_readOrder 117 = .ok (.bipush 61, 2) := by decide +kernel
theorem dX3_readOrder_119 : decode cX3_readOrder 119 = .ok (.invokevirtual 30, 3) := by decide +kernel
theorem dX3_readOrder_122 : decode cX3_readOrder 122 = .ok (.ifCond .eq 15, 3) := by decide +kernel
theorem dX3_readOrder_125 : decode cX3_readOrder 125 = .ok (.aload_n 0, 1) := by decide +kernel
theorem dX3_readOrder_126 : decode cX3_readOrder 126 = .ok (.iconst 1, 1) := by decide +kernel
theorem dX3_readOrder_127 : decode cX3_readOrder 127 = .ok (.invokevirtual 40, 3) := by decide +kernel
theorem dX3_readOrder_130 : decode cX3_readOrder 130 = .ok (.ifCond .eq 7, 3) := by decide +kernel
theorem dX3_readOrder_133 : decode cX3_readOrder 133 = .ok (.iconst 1, 1) := by decide +kernel
theorem dX3_readOrder_134 : decode cX3_readOrder 134 = .ok (.goto 4, 3) := by decide +kernel
theorem dX3_readOrder_137 : decode cX3_readOrder 137 = .ok (.iconst 0, 1) := by decide +kernel
theorem dX3_readOrder_138 : decode cX3_readOrder 138 = .ok (.ireturn, 1) := by decide +kernel
theorem dX3_readOrder_139 : decode cX3_readOrder 139 = .ok (.aload_n 0, 1) := by decide +kernel
theorem dX3_readOrder_140 : decode cX3_readOrder 140 = .ok (.bipush 100, 2) := by decide +kernel
theorem dX3_readOrder_142 : decode cX3_readOrder 142 = .ok (.invokevirtual 30, 3) := by decide +kernel
theorem dX3_readOrder_145 : decode cX3_readOrder 145 = .ok (.ifCond .eq 13, 3) := by decide +kernel
theorem dX3_readOrder_148 : decode cX3_readOrder 148 = .ok (.aload_n 0, 1) := by decide +kernel
theorem dX3_readOrder_149 : decode cX3_readOrder 149 = .ok (.iconst 3, 1) := by decide +kernel
theorem dX3_readOrder_150 : decode cX3_readOrder 150 = .ok (.putfield 34, 3) := by decide +kernel
theorem dX3_readOrder_153 : decode cX3_readOrder 153 = .ok (.aload_n 0, 1) := by decide +kernel
theorem dX3_readOrder_154 : decode cX3_readOrder 154 = .ok (.invokevirtual 50, 3) := by decide +kernel
theorem dX3_readOrder_157 : decode cX3_readOrder 157 = .ok (.ireturn, 1) := by decide +kernel
theorem dX3_readOrder_158 : decode cX3_readOrder 158 = .ok (.iconst 0, 1) := by decide +kernel
theorem dX3_readOrder_159 : decode cX3_readOrder 159 = .ok (.ireturn, 1) := by decide +kernel
theorem dX3_readSign_0 : decode cX3_readSign 0 = .ok (.aload_n 0, 1) := by decide +kernel
theorem dX3_readSign_1 : decode cX3_readSign 1 = .ok (.getfield 23, 3) := by decide +kernel
theorem dX3_readSign_4 : decode cX3_readSign 4 = .ok (.aload_n 0, 1) := by decide +kernel
theorem dX3_readSign_5 : decode cX3_readSign 5 = .ok (.getfield 19, 3) := by decide +kernel
theorem dX3_readSign_8 : decode cX3_readSign 8 = .ok (.if_icmp .ge 28, 3) := by decide +kernel
theorem dX3_readSign_11 : decode cX3_readSign 11 = .ok (.aload_n 0, 1) := by decide +kernel
theorem dX3_readSign_12 : decode cX3_readSign 12 = .ok (.getfield 15, 3) := by decide +kernel
theorem dX3_readSign_15 : decode cX3_readSign 15 = .ok (.aload_n 0, 1) := by decide +kernel
theorem dX3_readSign_16 : decode cX3_readSign 16 = .ok (.getfield 23, 3) := by decide +kernel
theorem dX3_readSign_19 : decode cX3_readSign 19 = .ok (.caload, 1) := by decide +kernel
theorem dX3_readSign_20 : decode cX3_readSign 20 = .ok (.iload_n 1, 1) := by decide +kernel
theorem dX3_readSign_21 : decode cX3_readSign 21 = .ok (.if_icmp .ne 15, 3) := by decide +kernel
theorem dX3_readSign_24 : decode cX3_readSign 24 = .ok (.aload_n 0, 1) := by decide +kernel
theorem dX3_readSign_25 : decode cX3_readSign 25 = .ok (.dup, 1) := by decide +kernel
theorem dX3_readSign_26 : decode cX3_readSign 26 = .ok (.getfield 23, 3) := by decide +kernel
theorem dX3_readSign_29 : decode cX3_readSign 29 = .ok (.iconst 1, 1) := by decide +kernel
theorem dX3_readSign_30 : decode cX3_readSign 30 = .ok (.iadd, 1) := by decide +kernel
theorem dX3_readSign_31 : decode cX3_readSign 31 = .ok (.putfield 23, 3) := by decide +kernel
theorem dX3_readSign_34 : decode cX3_readSign 34 = .ok (.iconst 1, 1) := by decide +kernel
theorem dX3_readSign_35 : decode cX3_readSign 35 = .ok (.ireturn, 1) := by decide +kernel
theorem dX3_readSign_36 : decode cX3_readSign 36 = .ok (.iconst 0, 1) := by decide +kernel
theorem dX3_readSign_37 : decode cX3_readSign 37 = .ok (.ireturn, 1) := by decide +kernel
theorem dX3_readDigit_0 : decode cX3_readDigit 0 = .ok (.aload_n 0, 1) := by decide +kernel
theorem dX3_readDigit_1 : decode cX3_readDigit 1 = .ok (.getfield 23, 3) := by decide +kernel
theorem dX3_readDigit_4 : decode cX3_readDigit 4 = .ok (.aload_n 0, 1) := by decide +kernel
theorem dX3_readDigit_5 : decode cX3_readDigit 5 = .ok (.getfield 19, 3) := by decide +kernel
theorem dX3_readDigit_8 : decode cX3_readDigit 8 = .ok (.if_icmp .lt 5, 3) := by decide +kernel
theorem dX3_readDigit_11 : decode cX3_readDigit 11 = .ok (.iconst (-1), 1) := by decide +kernel
theorem dX3_readDigit_12 : decode cX3_readDigit 12 = .ok (.ireturn, 1) := by decide +kernel
theorem dX3_readDigit_13 : decode cX3_readDigit 13 = .ok (.aload_n 0, 1) := by decide +kernel
theorem dX3_readDigit_14 : decode cX3_readDigit 14 = .ok (.getfield 15, 3) := by decide +kernel
theorem dX3_readDigit_17 : decode cX3_readDigit 17 = .ok (.aload_n 0, 1) := by decide +kernel
theorem dX3_readDigit_18 : decode cX3_readDigit 18 = .ok (.getfield 23, 3) := by decide +kernel
theorem dX3_readDigit_21 : decode cX3_readDigit 21 = .ok (.caload, 1) := by decide +kernel
theorem dX3_readDigit_22 : decode cX3_readDigit 22 = .ok (.bipush 48, 2) := by decide +kernel
theorem dX3_readDigit_24 : decode cX3_readDigit 24 = .ok (.isub, 1) := by decide +kernel
theorem dX3_readDigit_25 : decode cX3_readDigit 25 = .ok (.istore_n 3, 1) := by decide +kernel
theorem dX3_readDigit_26 : decode cX3_readDigit 26 = .ok (.iload_n 3, 1) := by decide +kernel
theorem dX3_readDigit_27 : decode cX3_readDigit 27 = .ok (.iload_n 1, 1) := by decide +kernel
theorem dX3_readDigit_28 : decode cX3_readDigit 28 = .ok (.if_icmp .lt 8, 3) := by decide +kernel
theorem dX3_readDigit_31 : decode cX3_readDigit 31 = .ok (.iload_n 3, 1) := by decide +kernel
theorem dX3_readDigit_32 : decode cX3_readDigit 32 = .ok (.iload_n 2, 1) := by decide +kernel
theorem dX3_readDigit_33 : decode cX3_readDigit 33 = .ok (.if_icmp .le 5, 3) := by decide +kernel
theorem dX3_readDigit_36 : decode cX3_readDigit 36 = .ok (.iconst (-1), 1) := by decide +kernel
theorem dX3_readDigit_37 : decode cX3_readDigit 37 = .ok (.ireturn, 1) := by decide +kernel
theorem dX3_readDigit_38 : decode cX3_readDigit 38 = .ok (.aload_n 0, 1) := by decide +kernel
theorem dX3_readDigit_39 : decode cX3_readDigit 39 = .ok (.dup, 1) := by decide +kernel
theorem dX3_readDigit_40 : decode cX3_readDigit 40 = .ok (.getfield 23, 3) := by decide +kernel
theorem dX3_readDigit_43 : decode cX3_readDigit 43 = .ok (.iconst 1, 1) := by decide +kernel
theorem dX3_readDigit_44 : decode cX3_readDigit 44 = .ok (.iadd, 1) := by decide +kernel
theorem dX3_readDigit_45 : decode cX3_readDigit 45 = .ok (.putfield 23, 3) := by decide +kernel
theorem dX3_readDigit_48 : decode cX3_readDigit 48 = .ok (.iload_n 3, 1) := by decide +kernel
theorem dX3_readDigit_49 : decode cX3_readDigit 49 = .ok (.ireturn, 1) := by decide +kernel
set_option maxRecDepth 20000 in
theorem ggX3_readPlot_X3_readDigit : GoodIn wsX3_readPlot wsX3_readDigit := goodIn_r _ [10, 11, 12, 13, 14, 15, 16, 17, 18, 19, 20, 21] rfl (by decide +kernel)
set_option maxRecDepth 20000 in
theorem gX3_readPlot_X3_readDigit : GoodIn wsX3_readPlot (wsV RX3 53 RX3 yX3_readDigit wsX3_readDigit) := goodIn_app (goodIn_of _ (by decide +kernel)) ggX3_readPlot_X3_readDigit
theorem dX3_readPlot_0 : decode cX3_readPlot 0 = .ok (.aload_n 0, 1) := by decide +kernel
theorem dX3_readPlot_1 : decode cX3_readPlot 1 = .ok (.aload_n 0, 1) := by decide +kernel
theorem dX3_readPlot_2 : decode cX3_readPlot 2 = .ok (.iconst 0, 1) := by decide +kernel
theorem dX3_readPlot_3 : decode cX3_readPlot 3 = .ok (.bipush 9, 2) := by decide +kernel
theorem dX3_readPlot_5 : decode cX3_readPlot 5 = .ok (.invokevirtual 53, 3) := by decide +kernel
theorem dX3_readPlot_8 : decode cX3_readPlot 8 = .ok (.putfield 57, 3) := by decide +kernel
theorem dX3_readPlot_11 : decode cX3_readPlot 11 = .ok (.aload_n 0, 1) := by decide +kernel
theorem dX3_readPlot_12 : decode cX3_readPlot 12 = .ok (.getfield 57, 3) := by decide +kernel
theorem dX3_readPlot_15 : decode cX3_readPlot 15 = .ok (.ifCond .le 41, 3) := by decide +kernel
theorem dX3_readPlot_18 : decode cX3_readPlot 18 = .ok (.aload_n 0, 1) := by decide +kernel
theorem dX3_readPlot_19 : decode cX3_readPlot 19 = .ok (.iconst 0, 1) := by decide +kernel
theorem dX3_readPlot_20 : decode cX3_readPlot 20 = .ok (.bipush 9, 2) := by decide +kernel
theorem dX3_readPlot_22 : decode cX3_readPlot 22 = .ok (.bipush 23, 2) := by decide +kernel
theorem dX3_readPlot_24 : decode cX3_readPlot 24 = .ok (.bipush 10, 2) := by decide +kernel
theorem dX3_readPlot_26 : decode cX3_readPlot 26 = .ok (.aload_n 0, 1) := by decide +kernel
theorem dX3_readPlot_27 : decode cX3_readPlot 27 = .ok (.getfield 57, 3) := by decide +kernel
theorem dX3_readPlot_30 : decode cX3_readPlot 30 = .ok (.imul, 1) := by decide +kernel
theorem dX3_readPlot_31 : decode cX3_readPlot 31 = .ok (.isub, 1) := by decide +kernel
theorem dX3_readPlot_32 : decode cX3_readPlot 32 = .ok (.invokestatic 60, 3) := by decide +kernel
theorem dX3_readPlot_35 : decode cX3_readPlot 35 = .ok (.invokevirtual 53, 3) := by decide +kernel
theorem dX3_readPlot_38 : decode cX3_readPlot 38 = .ok (.istore_n 1, 1) := by decide +kernel
theorem dX3_readPlot_39 : decode cX3_readPlot 39 = .ok (.iload_n 1, 1) := by decide +kernel
theorem dX3_readPlot_40 : decode cX3_readPlot 40 = .ok (.ifCond .lt 16, 3) := by decide +kernel
theorem dX3_readPlot_43 : decode cX3_readPlot 43 = .ok (.aload_n 0, 1) := by decide +kernel
theorem dX3_readPlot_44 : decode cX3_readPlot 44 = .ok (.bipush 10, 2) := by decide +kernel
theorem dX3_readPlot_46 : decode cX3_readPlot 46 = .ok (.aload_n 0, 1) := by decide +kernel
theorem dX3_readPlot_47 : decode cX3_readPlot 47 = .ok (.getfield 57, 3) := by decide +kernel
theorem dX3_readPlot_50 : decode cX3_readPlot 50 = .ok (.imul, 1) := by decide +kernel
theorem dX3_readPlot_51 : decode cX3_readPlot 51 = .ok (.iload_n 1, 1) := by decide +kernel
theorem dX3_readPlot_52 : decode cX3_readPlot 52 = .ok (.iadd, 1) := by decide +kernel
theorem dX3_readPlot_53 : decode cX3_readPlot 53 = .ok (.putfield 57, 3) := by decide +kernel
theorem dX3_readPlot_56 : decode cX3_readPlot 56 = .ok (.aload_n 0, 1) := by decide +kernel
theorem dX3_readPlot_57 : decode cX3_readPlot 57 = .ok (.getfield 57, 3) := by decide +kernel
theorem dX3_readPlot_60 : decode cX3_readPlot 60 = .ok (.ifCond .lt 7, 3) := by decide +kernel
theorem dX3_readPlot_63 : decode cX3_readPlot 63 = .ok (.iconst 1, 1) := by decide +kernel
theorem dX3_readPlot_64 : decode cX3_readPlot 64 = .ok (.goto 4, 3) := by decide +kernel
theorem dX3_readPlot_67 : decode cX3_readPlot 67 = .ok (.iconst 0, 1) := by decide +kernel
theorem dX3_readPlot_68 : decode cX3_readPlot 68 = .ok (.ireturn, 1) := by decide +kernel
set_option maxRecDepth 20000 in
theorem ggX3_readCousin_X3_readDigit : GoodIn wsX3_readCousin wsX3_readDigit := goodIn_r _ [6, 7, 8, 9, 10, 11, 12, 13, 14, 15, 16, 17] rfl (by decide +kernel)
set_option maxRecDepth 20000 in
theorem gX3_readCousin_X3_readDigit : GoodIn wsX3_readCousin (wsV RX3 53 RX3 yX3_readDigit wsX3_readDigit) := goodIn_app (goodIn_of _ (by decide +kernel)) ggX3_readCousin_X3_readDigit
theorem dX3_readCousin_0 : decode cX3_readCousin 0 = .ok (.aload_n 0, 1) := by decide +kernel
theorem dX3_readCousin_1 : decode cX3_readCousin 1 = .ok (.aload_n 0, 1) := by decide +kernel
theorem dX3_readCousin_2 : decode cX3_readCousin 2 = .ok (.iconst 0, 1) := by decide +kernel
theorem dX3_readCousin_3 : decode cX3_readCousin 3 = .ok (.bipush 6, 2) := by decide +kernel
theorem dX3_readCousin_5 : decode cX3_readCousin 5 = .ok (.invokevirtual 53, 3) := by decide +kernel
theorem dX3_readCousin_8 : decode cX3_readCousin 8 = .ok (.putfield 57, 3) := by decide +kernel
theorem dX3_readCousin_11 : decode cX3_readCousin 11 = .ok (.aload_n 0, 1) := by decide +kernel
theorem dX3_readCousin_12 : decode cX3_readCousin 12 = .ok (.getfield 57, 3) := by decide +kernel
theorem dX3_readCousin_15 : decode cX3_readCousin 15 = .ok (.ifCond .lt 7, 3) := by decide +kernel
theorem dX3_readCousin_18 : decode cX3_readCousin 18 = .ok (.iconst 1, 1) := by decide +kernel
theorem dX3_readCousin_19 : decode cX3_readCousin 19 = .ok (.goto 4, 3) := by decide +kernel
theorem dX3_readCousin_22 : decode cX3_readCousin 22 = .ok (.iconst 0, 1) := by decide +kernel
theorem dX3_readCousin_23 : decode cX3_readCousin 23 = .ok (.ireturn, 1) := by decide +kernel
set_option maxRecDepth 20000 in
theorem ggX3_readOther_X3_readDigit : GoodIn wsX3_readOther wsX3_readDigit := goodIn_r _ [7, 8, 9, 10, 11, 12, 13, 14, 15, 16, 17, 18] rfl (by decide +kernel)
set_option maxRecDepth 20000 in
theorem gX3_readOther_X3_readDigit : GoodIn wsX3_readOther (wsV RX3 53 RX3 yX3_readDigit wsX3_readDigit) := goodIn_app (goodIn_of _ (by decide +kernel)) ggX3_readOther_X3_readDigit
theorem dX3_readOther_0 : decode cX3_readOther 0 = .ok (.aload_n 0, 1) := by decide +kernel
theorem dX3_readOther_1 : decode cX3_readOther 1 = .ok (.aload_n 0, 1) := by decide +kernel
theorem dX3_readOther_2 : decode cX3_readOther 2 = .ok (.iconst 0, 1) := by decide +kernel
theorem dX3_readOther_3 : decode cX3_readOther 3 = .ok (.aload_n 0, 1) := by decide +kernel
theorem dX3_readOther_4 : decode cX3_readOther 4 = .ok (.getfield 57, 3) := by decide +kernel
theorem dX3_readOther_7 : decode cX3_readOther 7 = .ok (.iconst 1, 1) := by decide +kernel
theorem dX3_readOther_8 : decode cX3_readOther 8 = .ok (.isub, 1) := by decide +kernel
theorem dX3_readOther_9 : decode cX3_readOther 9 = .ok (.invokevirtual 53, 3) := by decide +kernel
theorem dX3_readOther_12 : decode cX3_readOther 12 = .ok (.putfield 65, 3) := by decide +kernel
theorem dX3_readOther_15 : decode cX3_readOther 15 = .ok (.aload_n 0, 1) := by decide +kernel
theorem dX3_readOther_16 : decode cX3_readOther 16 = .ok (.getfield 65, 3) := by decide +kernel
theorem dX3_readOther_19 : decode cX3_readOther 19 = .ok (.ifCond .ge 19, 3) := by decide +kernel
theorem dX3_readOther_22 : decode cX3_readOther 22 = .ok (.aload_n 0, 1) := by decide +kernel
theorem dX3_readOther_23 : decode cX3_readOther 23 = .ok (.aload_n 0, 1) := by decide +kernel
theorem dX3_readOther_24 : decode cX3_readOther 24 = .ok (.aload_n 0, 1) := by decide +kernel
theorem dX3_readOther_25 : decode cX3_readOther 25 = .ok (.getfield 57, 3) := by decide +kernel
theorem dX3_readOther_28 : decode cX3_readOther 28 = .ok (.iconst 1, 1) := by decide +kernel
theorem dX3_readOther_29 : decode cX3_readOther 29 = .ok (.iadd, 1) := by decide +kernel
theorem dX3_readOther_30 : decode cX3_readOther 30 = .ok (.bipush 6, 2) := by decide +kernel
theorem dX3_readOther_32 : decode cX3_readOther 32 = .ok (.invokevirtual 53, 3) := by decide +kernel
theorem dX3_readOther_35 : decode cX3_readOther 35 = .ok (.putfield 65, 3) := by decide +kernel
theorem dX3_readOther_38 : decode cX3_readOther 38 = .ok (.aload_n 0, 1) := by decide +kernel
theorem dX3_readOther_39 : decode cX3_readOther 39 = .ok (.getfield 65, 3) := by decide +kernel
theorem dX3_readOther_42 : decode cX3_readOther 42 = .ok (.ifCond .lt 7, 3) := by decide +kernel
theorem dX3_readOther_45 : decode cX3_readOther 45 = .ok (.iconst 1, 1) := by decide +kernel
theorem dX3_readOther_46 : decode cX3_readOther 46 = .ok (.goto 4, 3) := by decide +kernel
theorem dX3_readOther_49 : decode cX3_readOther 49 = .ok (.iconst 0, 1) := by decide +kernel
theorem dX3_readOther_50 : decode cX3_readOther 50 = .ok (.ireturn, 1) := by decide +kernel
set_option maxRecDepth 20000 in
theorem ggX3_readDigits_X3_readDigit : GoodIn wsX3_readDigits wsX3_readDigit := goodIn_r _ [6, 7, 8, 9, 10, 11, 12, 13, 14, 15, 16, 17] rfl (by decide +kernel)
set_option maxRecDepth 20000 in
theorem gX3_readDigits_X3_readDigit : GoodIn wsX3_readDigits (wsV RX3 53 RX3 yX3_readDigit wsX3_readDigit) := goodIn_app (goodIn_of _ (by decide +kernel)) ggX3_readDigits_X3_readDigit
theorem dX3_readDigits_0 : decode cX3_readDigits 0 = .ok (.iconst 0, 1) := by decide +kernel
theorem dX3_readDigits_1 : decode cX3_readDigits 1 = .ok (.istore_n 2, 1) := by decide +kernel
theorem dX3_readDigits_2 : decode cX3_readDigits 2 = .ok (.iload_n 2, 1) := by decide +kernel
theorem dX3_readDigits_3 : decode cX3_readDigits 3 = .ok (.iload_n 1, 1) := by decide +kernel
theorem dX3_readDigits_4 : decode cX3_readDigits 4 = .ok (.if_icmp .ge 35, 3) := by decide +kernel
theorem dX3_readDigits_7 : decode cX3_readDigits 7 = .ok (.iload_n 2, 1) := by decide +kernel
theorem dX3_readDigits_8 : decode cX3_readDigits 8 = .ok (.iconst 4, 1) := by decide +kernel
theorem dX3_readDigits_9 : decode cX3_readDigits 9 = .ok (.if_icmp .ge 30, 3) := by decide +kernel
theorem dX3_readDigits_12 : decode cX3_readDigits 12 = .ok (.aload_n 0, 1) := by decide +kernel
theorem dX3_readDigits_13 : decode cX3_readDigits 13 = .ok (.iconst 0, 1) := by decide +kernel
theorem dX3_readDigits_14 : decode cX3_readDigits 14 = .ok (.bipush 9, 2) := by decide +kernel
theorem dX3_readDigits_16 : decode cX3_readDigits 16 = .ok (.invokevirtual 53, 3) := by decide +kernel
theorem dX3_readDigits_19 : decode cX3_readDigits 19 = .ok (.istore_n 3, 1) := by decide +kernel
theorem dX3_readDigits_20 : decode cX3_readDigits 20 = .ok (.iload_n 3, 1) := by decide +kernel
theorem dX3_readDigits_21 : decode cX3_readDigits 21 = .ok (.ifCond .ge 5, 3) := by decide +kernel
theorem dX3_readDigits_24 : decode cX3_readDigits 24 = .ok (.iconst 0, 1) := by decide +kernel
theorem dX3_readDigits_25 : decode cX3_readDigits 25 = .ok (.ireturn, 1) := by decide +kernel
theorem dX3_readDigits_26 : decode cX3_readDigits 26 = .ok (.aload_n 0, 1) := by decide +kernel
theorem dX3_readDigits_27 : decode cX3_readDigits 27 = .ok (.getfield 9, 3) := by decide +kernel
theorem dX3_readDigits_30 : decode cX3_readDigits 30 = .ok (.iload_n 2, 1) := by decide +kernel
theorem dX3_readDigits_31 : decode cX3_readDigits 31 = .ok (.iload_n 3, 1) := by decide +kernel
theorem dX3_readDigits_32 : decode cX3_readDigits 32 = .ok (.iastore, 1) := by decide +kernel
theorem dX3_readDigits_33 : decode cX3_readDigits 33 = .ok (.iinc 2 1, 3) := by decide +kernel
theorem dX3_readDigits_36 : decode cX3_readDigits 36 = .ok (.goto (-34), 3) := by decide +kernel
theorem dX3_readDigits_39 : decode cX3_readDigits 39 = .ok (.iconst 1, 1) := by decide +kernel
theorem dX3_readDigits_40 : decode cX3_readDigits 40 = .ok (.ireturn, 1) := by decide +kernel
set_option maxRecDepth 20000 in
theorem ggX3_readParty_X3_readDigit : GoodIn wsX3_readParty wsX3_readDigit := goodIn_r _ [6, 7, 8, 9, 10, 11, 12, 13, 14, 15, 16, 17] rfl (by decide +kernel)
set_option maxRecDepth 20000 in
theorem gX3_readParty_X3_readDigit : GoodIn wsX3_readParty (wsV RX3 53 RX3 yX3_readDigit wsX3_readDigit) := goodIn_app (goodIn_of _ (by decide +kernel)) ggX3_readParty_X3_readDigit
theorem dX3_readParty_0 : decode cX3_readParty 0 = .ok (.aload_n 0, 1) := by decide +kernel
theorem dX3_readParty_1 : decode cX3_readParty 1 = .ok (.iconst 0, 1) := by decide +kernel
theorem dX3_readParty_2 : decode cX3_readParty 2 = .ok (.putfield 68, 3) := by decide +kernel
theorem dX3_readParty_5 : decode cX3_readParty 5 = .ok (.iconst 0, 1) := by decide +kernel
theorem dX3_readParty_6 : decode cX3_readParty 6 = .ok (.istore_n 1, 1) := by decide +kernel
theorem dX3_readParty_7 : decode cX3_readParty 7 = .ok (.iconst 0, 1) := by decide +kernel
theorem dX3_readParty_8 : decode cX3_readParty 8 = .ok (.istore_n 2, 1) := by decide +kernel
theorem dX3_readParty_9 : decode cX3_readParty 9 = .ok (.iload_n 2, 1) := by decide +kernel
theorem dX3_readParty_10 : decode cX3_readParty 10 = .ok (.bipush 7, 2) := by decide +kernel
theorem dX3_readParty_12 : decode cX3_readParty 12 = .ok (.if_icmp .ge 40, 3) := by decide +kernel
theorem dX3_readParty_15 : decode cX3_readParty 15 = .ok (.aload_n 0, 1) := by decide +kernel
theorem dX3_readParty_16 : decode cX3_readParty 16 = .ok (.iload_n 1, 1) := by decide +kernel
theorem dX3_readParty_17 : decode cX3_readParty 17 = .ok (.bipush 6, 2) := by decide +kernel
theorem dX3_readParty_19 : decode cX3_readParty 19 = .ok (.invokevirtual 53, 3) := by decide +kernel
theorem dX3_readParty_22 : decode cX3_readParty 22 = .ok (.istore_n 3, 1) := by decide +kernel
theorem dX3_readParty_23 : decode cX3_readParty 23 = .ok (.iload_n 3, 1) := by decide +kernel
theorem dX3_readParty_24 : decode cX3_readParty 24 = .ok (.ifCond .ge 6, 3) := by decide +kernel
theorem dX3_readParty_27 : decode cX3_readParty 27 = .ok (.goto 25, 3) := by decide +kernel
theorem dX3_readParty_30 : decode cX3_readParty 30 = .ok (.aload_n 0, 1) := by decide +kernel
theorem dX3_readParty_31 : decode cX3_readParty 31 = .ok (.dup, 1) := by decide +kernel
theorem dX3_readParty_32 : decode cX3_readParty 32 = .ok (.getfield 68, 3) := by decide +kernel
theorem dX3_readParty_35 : decode cX3_readParty 35 = .ok (.iconst 1, 1) := by decide +kernel
theorem dX3_readParty_36 : decode cX3_readParty 36 = .ok (.iload_n 3, 1) := by decide +kernel
theorem dX3_readParty_37 : decode cX3_readParty 37 = .ok (.ishl, 1) := by decide +kernel
theorem dX3_readParty_38 : decode cX3_readParty 38 = .ok (.ior, 1) := by decide +kernel
theorem dX3_readParty_39 : decode cX3_readParty 39 = .ok (.putfield 68, 3) := by decide +kernel
theorem dX3_readParty_42 : decode cX3_readParty 42 = .ok (.iload_n 3, 1) := by decide +kernel
theorem dX3_readParty_43 : decode cX3_readParty 43 = .ok (.iconst 1, 1) := by decide +kernel
theorem dX3_readParty_44 : decode cX3_readParty 44 = .ok (.iadd, 1) := by decide +kernel
theorem dX3_readParty_45 : decode cX3_readParty 45 = .ok (.istore_n 1, 1) := by decide +kernel
theorem dX3_readParty_46 : decode cX3_readParty 46 = .ok (.iinc 2 1, 3) := by decide +kernel
theorem dX3_readParty_49 : decode cX3_readParty 49 = .ok (.goto (-40), 3) := by decide +kernel
theorem dX3_readParty_52 : decode cX3_readParty 52 = .ok (.aload_n 0, 1) := by decide +kernel
theorem dX3_readParty_53 : decode cX3_readParty 53 = .ok (.getfield 68, 3) := by decide +kernel
theorem dX3_readParty_56 : decode cX3_readParty 56 = .ok (.ifCond .eq 7, 3) := by decide +kernel
theorem dX3_readParty_59 : decode cX3_readParty 59 = .ok (.iconst 1, 1) := by decide +kernel
theorem dX3_readParty_60 : decode cX3_readParty 60 = .ok (.goto 4, 3) := by decide +kernel
theorem dX3_readParty_63 : decode cX3_readParty 63 = .ok (.iconst 0, 1) := by decide +kernel
theorem dX3_readParty_64 : decode cX3_readParty 64 = .ok (.ireturn, 1) := by decide +kernel
theorem dX4_init_0 : decode cX4_init 0 = .ok (.aload_n 0, 1) := by decide +kernel
theorem dX4_init_1 : decode cX4_init 1 = .ok (.invokespecial 3, 3) := by decide +kernel
theorem dX4_init_4 : decode cX4_init 4 = .ok (.aload_n 0, 1) := by decide +kernel
theorem dX4_init_5 : decode cX4_init 5 = .ok (.bipush 49, 2) := by decide +kernel
theorem dX4_init_7 : decode cX4_init 7 = .ok (.newarray .int, 2) := by decide +kernel
theorem dX4_init_9 : decode cX4_init 9 = .ok (.putfield 9, 3) := by decide +kernel
theorem dX4_init_12 : decode cX4_init 12 = .ok (.aload_n 0, 1) := by decide +kernel
theorem dX4_init_13 : decode cX4_init 13 = .ok (.aload_n 1, 1) := by decide +kernel
theorem dX4_init_14 : decode cX4_init 14 = .ok (.putfield 15, 3) := by decide +kernel
theorem dX4_init_17 : decode cX4_init 17 = .ok (.return_, 1) := by decide +kernel
set_option maxRecDepth 20000 in
theorem ggX4_measure_X5_isCousin : GoodIn wsX4_measure wsX5_isCousin := goodIn_r _ [5] rfl (by decide +kernel)
set_option maxRecDepth 20000 in
theorem gX4_measure_X5_isCousin_n19 : GoodIn wsX4_measure (wsX5_isCousin) := ggX4_measure_X5_isCousin
set_option maxRecDepth 20000 in
theorem ggX4_measure_X1_worthOf : GoodIn wsX4_measure wsX1_worthOf := goodIn_r _ [10, 11, 17, 18, 19, 20, 21, 22, 23, 24, 25] rfl (by decide +kernel)
set_option maxRecDepth 20000 in
theorem gX4_measure_X1_worthOf : GoodIn wsX4_measure (wsV RX4 23 RX1 yX1_worthOf wsX1_worthOf) := goodIn_app (goodIn_of _ (by decide +kernel)) ggX4_measure_X1_worthOf
theorem dX4_measure_0 : decode cX4_measure 0 = .ok (.iconst 0, 1) := by decide +kernel
theorem dX4_measure_1 : decode cX4_measure 1 = .ok (.istore_n 2, 1) := by decide +kernel
theorem dX4_measure_2 : decode cX4_measure 2 = .ok (.iload_n 2, 1) := by decide +kernel
theorem dX4_measure_3 : decode cX4_measure 3 = .ok (.bipush 49, 2) := by decide +kernel
theorem dX4_measure_5 : decode cX4_measure 5 = .ok (.if_icmp .ge 16, 3) := by decide +kernel
theorem dX4_measure_8 : decode cX4_measure 8 = .ok (.aload_n 0, 1) := by decide +kernel
theorem dX4_measure_9 : decode cX4_measure 9 = .ok (.getfield 9, 3) := by decide +kernel
theorem dX4_measure_12 : decode cX4_measure 12 = .ok (.iload_n 2, 1) := by decide +kernel
theorem dX4_measure_13 : decode cX4_measure 13 = .ok (.iconst 0, 1) := by decide +kernel
theorem dX4_measure_14 : decode cX4_measure 14 = .ok (.iastore, 1) := by decide +kernel
theorem dX4_measure_15 : decode cX4_measure 15 = .ok (.iinc 2 1, 3) := by decide +kernel
theorem dX4_measure_18 : decode cX4_measure 18 = .ok (.goto (-16), 3) := by decide +kernel
theorem dX4_measure_21 : decode cX4_measure 21 = .ok (.iconst 0, 1) := by decide +kernel
theorem dX4_measure_22 : decode cX4_measure 22 = .ok (.istore_n 2, 1) := by decide +kernel
theorem dX4_measure_23 : decode cX4_measure 23 = .ok (.iload_n 2, 1) := by decide +kernel
theorem dX4_measure_24 : decode cX4_measure 24 = .ok (.bipush 24, 2) := by decide +kernel
theorem dX4_measure_26 : decode cX4_measure 26 = .ok (.if_icmp .ge 61, 3) := by decide +kernel
theorem dX4_measure_29 : decode cX4_measure 29 = .ok (.aload_n 1, 1) := by decide +kernel
theorem dX4_measure_30 : decode cX4_measure 30 = .ok (.iload_n 2, 1) := by decide +kernel
theorem dX4_measure_31 : decode cX4_measure 31 = .ok (.iaload, 1) := by decide +kernel
theorem dX4_measure_32 : decode cX4_measure 32 = .ok (.istore_n 3, 1) := by decide +kernel
theorem dX4_measure_33 : decode cX4_measure 33 = .ok (.iload_n 3, 1) := by decide +kernel
theorem dX4_measure_34 : decode cX4_measure 34 = .ok (.invokestatic 19, 3) := by decide +kernel
theorem dX4_measure_37 : decode cX4_measure 37 = .ok (.ifCond .eq 44, 3) := by decide +kernel
theorem dX4_measure_40 : decode cX4_measure 40 = .ok (.iconst 0, 1) := by decide +kernel
theorem dX4_measure_41 : decode cX4_measure 41 = .ok (.istore 4, 2) := by decide +kernel
theorem dX4_measure_43 : decode cX4_measure 43 = .ok (.iload 4, 2) := by decide +kernel
theorem dX4_measure_45 : decode cX4_measure 45 = .ok (.bipush 7, 2) := by decide +kernel
theorem dX4_measure_47 : decode cX4_measure 47 = .ok (.if_icmp .ge 34, 3) := by decide +kernel
theorem dX4_measure_50 : decode cX4_measure 50 = .ok (.aload_n 0, 1) := by decide +kernel
theorem dX4_measure_51 : decode cX4_measure 51 = .ok (.getfield 9, 3) := by decide +kernel
theorem dX4_measure_54 : decode cX4_measure 54 = .ok (.iload 4, 2) := by decide +kernel
theorem dX4_measure_56 : decode cX4_measure 56 = .ok (.bipush 7, 2) := by decide +kernel
theorem dX4_measure_58 : decode cX4_measure 58 = .ok (.imul, 1) := by decide +kernel
theorem dX4_measure_59 : decode cX4_measure 59 = .ok (.iload_n 3, 1) := by decide +kernel
theorem dX4_measure_60 : decode cX4_measure 60 = .ok (.iadd, 1) := by decide +kernel
theorem dX4_measure_61 : decode cX4_measure 61 = .ok (.dup2, 1) := by decide +kernel
theorem dX4_measure_62 : decode cX4_measure 62 = .ok (.iaload, 1) := by decide +kernel
theorem dX4_measure_63 : decode cX4_measure 63 = .ok (.aload_n 0, 1) := by decide +kernel
theorem dX4_measure_64 : decode cX4_measure 64 = .ok (.getfield 15, 3) := by decide +kernel
theorem dX4_measure_67 : decode cX4_measure 67 = .ok (.iload_n 2, 1) := by decide +kernel
theorem dX4_measure_68 : decode cX4_measure 68 = .ok (.iload 4, 2) := by decide +kernel
theorem dX4_measure_70 : decode cX4_measure 70 = .ok (.invokevirtual 23, 3) := by decide +kernel
theorem dX4_measure_73 : decode cX4_measure 73 = .ok (.iadd, 1) := by decide +kernel
theorem dX4_measure_74 : decode cX4_measure 74 = .ok (.iastore, 1) := by decide +kernel
theorem dX4_measure_75 : decode cX4_measure 75 = .ok (.iinc 4 1, 3) := by decide +kernel
theorem dX4_measure_78 : decode cX4_measure 78 = .ok (.goto (-35), 3) := by decide +kernel
theorem dX4_measure_81 : decode cX4_measure 81 = .ok (.iinc 2 1, 3) := by decide +kernel
theorem dX4_measure_84 : decode cX4_measure 84 = .ok (.goto (-61), 3) := by decide +kernel
theorem dX4_measure_87 : decode cX4_measure 87 = .ok (.return_, 1) := by decide +kernel
theorem dX4_exchange_0 : decode cX4_exchange 0 = .ok (.iconst 0, 1) := by decide +kernel
theorem dX4_exchange_1 : decode cX4_exchange 1 = .ok (.istore_n 3, 1) := by decide +kernel
theorem dX4_exchange_2 : decode cX4_exchange 2 = .ok (.iload_n 3, 1) := by decide +kernel
theorem dX4_exchange_3 : decode cX4_exchange 3 = .ok (.bipush 49, 2) := by decide +kernel
theorem dX4_exchange_5 : decode cX4_exchange 5 = .ok (.if_icmp .ge 45, 3) := by decide +kernel
theorem dX4_exchange_8 : decode cX4_exchange 8 = .ok (.aload_n 0, 1) := by decide +kernel
theorem dX4_exchange_9 : decode cX4_exchange 9 = .ok (.getfield 9, 3) := by decide +kernel
theorem dX4_exchange_12 : decode cX4_exchange 12 = .ok (.iload_n 3, 1) := by decide +kernel
theorem dX4_exchange_13 : decode cX4_exchange 13 = .ok (.iload_n 1, 1) := by decide +kernel
theorem dX4_exchange_14 : decode cX4_exchange 14 = .ok (.iadd, 1) := by decide +kernel
theorem dX4_exchange_15 : decode cX4_exchange 15 = .ok (.iaload, 1) := by decide +kernel
theorem dX4_exchange_16 : decode cX4_exchange 16 = .ok (.istore 4, 2) := by decide +kernel
theorem dX4_exchange_18 : decode cX4_exchange 18 = .ok (.aload_n 0, 1) := by decide +kernel
theorem dX4_exchange_19 : decode cX4_exchange 19 = .ok (.getfield 9, 3) := by decide +kernel
theorem dX4_exchange_22 : decode cX4_exchange 22 = .ok (.iload_n 3, 1) := by decide +kernel
theorem dX4_exchange_23 : decode cX4_exchange 23 = .ok (.iload_n 1, 1) := by decide +kernel
theorem dX4_exchange_24 : decode cX4_exchange 24 = .ok (.iadd, 1) := by decide +kernel
theorem dX4_exchange_25 : decode cX4_exchange 25 = .ok (.aload_n 0, 1) := by decide +kernel
theorem dX4_exchange_26 : decode cX4_exchange 26 = .ok (.getfield 9, 3) := by decide +kernel
theorem dX4_exchange_29 : decode cX4_exchange 29 = .ok (.iload_n 3, 1) := by decide +kernel
theorem dX4_exchange_30 : decode cX4_exchange 30 = .ok (.iload_n 2, 1) := by decide +kernel
theorem dX4_exchange_31 : decode cX4_exchange 31 = .ok (.iadd, 1) := by decide +kernel
theorem dX4_exchange_32 : decode cX4_exchange 32 = .ok (.iaload, 1) := by decide +kernel
theorem dX4_exchange_33 : decode cX4_exchange 33 = .ok (.iastore, 1) := by decide +kernel
theorem dX4_exchange_34 : decode cX4_exchange 34 = .ok (.aload_n 0, 1) := by decide +kernel
theorem dX4_exchange_35 : decode cX4_exchange 35 = .ok (.getfield 9, 3) := by decide +kernel
theorem dX4_exchange_38 : decode cX4_exchange 38 = .ok (.iload_n 3, 1) := by decide +kernel
theorem dX4_exchange_39 : decode cX4_exchange 39 = .ok (.iload_n 2, 1) := by decide +kernel
theorem dX4_exchange_40 : decode cX4_exchange 40 = .ok (.iadd, 1) := by decide +kernel
theorem dX4_exchange_41 : decode cX4_exchange 41 = .ok (.iload 4, 2) := by decide +kernel
theorem dX4_exchange_43 : decode cX4_exchange 43 = .ok (.iastore, 1) := by decide +kernel
theorem dX4_exchange_44 : decode cX4_exchange 44 = .ok (.iinc 3 7, 3) := by decide +kernel
theorem dX4_exchange_47 : decode cX4_exchange 47 = .ok (.goto (-45), 3) := by decide +kernel
theorem dX4_exchange_50 : decode cX4_exchange 50 = .ok (.return_, 1) := by decide +kernel
theorem dX4_worthOf_0 : decode cX4_worthOf 0 = .ok (.aload_n 0, 1) := by decide +kernel
theorem dX4_worthOf_1 : decode cX4_worthOf 1 = .ok (.getfield 9, 3) := by decide +kernel
theorem dX4_worthOf_4 : decode cX4_worthOf 4 = .ok (.iload_n 1, 1) := by decide +kernel
theorem dX4_worthOf_5 : decode cX4_worthOf 5 = .ok (.bipush 7, 2) := by decide +kernel
theorem dX4_worthOf_7 : decode cX4_worthOf 7 = .ok (.imul, 1) := by decide +kernel
theorem dX4_worthOf_8 : decode cX4_worthOf 8 = .ok (.iload_n 2, 1) := by decide +kernel
theorem dX4_worthOf_9 : decode cX4_worthOf 9 = .ok (.iadd, 1) := by decide +kernel
theorem dX4_worthOf_10 : decode cX4_worthOf 10 = .ok (.iaload, 1) := by decide +kernel
theorem dX4_worthOf_11 : decode cX4_worthOf 11 = .ok (.ireturn, 1) := by decide +kernel
theorem dX4_seeming_0 : decode cX4_seeming 0 = .ok (.iload_n 1, 1) := by decide +kernel
theorem dX4_seeming_1 : decode cX4_seeming 1 = .ok (.bipush 7, 2) := by decide +kernel
theorem dX4_seeming_3 : decode cX4_seeming 3 = .ok (.imul, 1) := by decide +kernel
theorem dX4_seeming_4 : decode cX4_seeming 4 = .ok (.iload_n 2, 1) := by decide +kernel
theorem dX4_seeming_5 : decode cX4_seeming 5 = .ok (.iadd, 1) := by decide +kernel
theorem dX4_seeming_6 : decode cX4_seeming 6 = .ok (.istore_n 3, 1) := by decide +kernel
theorem dX4_seeming_7 : decode cX4_seeming 7 = .ok (.aload_n 0, 1) := by decide +kernel
theorem dX4_seeming_8 : decode cX4_seeming 8 = .ok (.getfield 9, 3) := by decide +kernel
theorem dX4_seeming_11 : decode cX4_seeming 11 = .ok (.iload_n 3, 1) := by decide +kernel
theorem dX4_seeming_12 : decode cX4_seeming 12 = .ok (.iaload, 1) := by decide +kernel
theorem dX4_seeming_13 : decode cX4_seeming 13 = .ok (.bipush 10, 2) := by decide +kernel
theorem dX4_seeming_15 : decode cX4_seeming 15 = .ok (.aload_n 0, 1) := by decide +kernel
theorem dX4_seeming_16 : decode cX4_seeming 16 = .ok (.getfield 15, 3) := by decide +kernel
theorem dX4_seeming_19 : decode cX4_seeming 19 = .ok (.getfield 29, 3) := by decide +kernel
theorem dX4_seeming_22 : decode cX4_seeming 22 = .ok (.iload_n 3, 1) := by decide +kernel
theorem dX4_seeming_23 : decode cX4_seeming 23 = .ok (.iaload, 1) := by decide +kernel
theorem dX4_seeming_24 : decode cX4_seeming 24 = .ok (.iadd, 1) := by decide +kernel
theorem dX4_seeming_25 : decode cX4_seeming 25 = .ok (.imul, 1) := by decide +kernel
theorem dX4_seeming_26 : decode cX4_seeming 26 = .ok (.bipush 10, 2) := by decide +kernel
theorem dX4_seeming_28 : decode cX4_seeming 28 = .ok (.idiv, 1) := by decide +kernel
theorem dX4_seeming_29 : decode cX4_seeming 29 = .ok (.ireturn, 1) := by decide +kernel
set_option maxRecDepth 20000 in
theorem ggX4_envy_X4_seeming : GoodIn wsX4_envy wsX4_seeming := goodIn_r _ [9, 10, 11, 12, 17, 18, 19, 20, 21, 22, 23, 24, 25, 26, 27, 28, 29, 30] rfl (by decide +kernel)
set_option maxRecDepth 20000 in
theorem gX4_envy_X4_seeming : GoodIn wsX4_envy (wsV RX4 32 RX4 yX4_seeming wsX4_seeming) := goodIn_app (goodIn_of _ (by decide +kernel)) ggX4_envy_X4_seeming
set_option maxRecDepth 20000 in
theorem ggX4_envy_X4_worthOf : GoodIn wsX4_envy wsX4_worthOf := goodIn_r _ [16, 10, 17, 18, 19, 20, 21] rfl (by decide +kernel)
set_option maxRecDepth 20000 in
theorem gX4_envy_X4_worthOf : GoodIn wsX4_envy (wsV RX4 35 RX4 yX4_worthOf wsX4_worthOf) := goodIn_app (goodIn_of _ (by decide +kernel)) ggX4_envy_X4_worthOf
theorem dX4_envy_0 : decode cX4_envy 0 = .ok (.iload_n 1, 1) := by decide +kernel
theorem dX4_envy_1 : decode cX4_envy 1 = .ok (.iload_n 2, 1) := by decide +kernel
theorem dX4_envy_2 : decode cX4_envy 2 = .ok (.if_icmp .ne 5, 3) := by decide +kernel
theorem dX4_envy_5 : decode cX4_envy 5 = .ok (.iconst 0, 1) := by decide +kernel
theorem dX4_envy_6 : decode cX4_envy 6 = .ok (.ireturn, 1) := by decide +kernel
theorem dX4_envy_7 : decode cX4_envy 7 = .ok (.iconst 0, 1) := by decide +kernel
theorem dX4_envy_8 : decode cX4_envy 8 = .ok (.aload_n 0, 1) := by decide +kernel
theorem dX4_envy_9 : decode cX4_envy 9 = .ok (.iload_n 1, 1) := by decide +kernel
theorem dX4_envy_10 : decode cX4_envy 10 = .ok (.iload_n 2, 1) := by decide +kernel
theorem dX4_envy_11 : decode cX4_envy 11 = .ok (.invokevirtual 32, 3) := by decide +kernel
theorem dX4_envy_14 : decode cX4_envy 14 = .ok (.aload_n 0, 1) := by decide +kernel
theorem dX4_envy_15 : decode cX4_envy 15 = .ok (.iload_n 1, 1) := by decide +kernel
theorem dX4_envy_16 : decode cX4_envy 16 = .ok (.iload_n 1, 1) := by decide +kernel
theorem dX4_envy_17 : decode cX4_envy 17 = .ok (.invokevirtual 35, 3) := by decide +kernel
theorem dX4_envy_20 : decode cX4_envy 20 = .ok (.isub, 1) := by decide +kernel
theorem dX4_envy_21 : decode cX4_envy 21 = .ok (.invokestatic 36, 3) := by decide +kernel
theorem dX4_envy_24 : decode cX4_envy 24 = .ok (.ireturn, 1) := by decide +kernel
set_option maxRecDepth 20000 in
theorem ggX4_enviesOf_X5_contains : GoodIn wsX4_enviesOf wsX5_contains := goodIn_r _ [3] rfl (by decide +kernel)
set_option maxRecDepth 20000 in
theorem gX4_enviesOf_X5_contains_n41 : GoodIn wsX4_enviesOf (wsX5_contains) := ggX4_enviesOf_X5_contains
set_option maxRecDepth 20000 in
theorem ggX4_enviesOf_X4_envy : GoodIn wsX4_enviesOf wsX4_envy := goodIn_r _ [8, 9, 10, 11, 12, 13, 14, 15, 7, 16, 17, 18, 19, 20, 21, 22, 23, 24, 25, 26, 27, 28, 29, 30, 31, 32, 33, 34, 35, 36, 37] rfl (by decide +kernel)
set_option maxRecDepth 20000 in
theorem gX4_enviesOf_X4_envy : GoodIn wsX4_enviesOf (wsV RX4 45 RX4 yX4_envy wsX4_envy) := goodIn_app (goodIn_of _ (by decide +kernel)) ggX4_enviesOf_X4_envy
theorem dX4_enviesOf_0 : decode cX4_enviesOf 0 = .ok (.iconst 0, 1) := by decide +kernel
theorem dX4_enviesOf_1 : decode cX4_enviesOf 1 = .ok (.istore_n 3, 1) := by decide +kernel
theorem dX4_enviesOf_2 : decode cX4_enviesOf 2 = .ok (.iconst 0, 1) := by decide +kernel
theorem dX4_enviesOf_3 : decode cX4_enviesOf 3 = .ok (.istore 4, 2) := by decide +kernel
theorem dX4_enviesOf_5 : decode cX4_enviesOf 5 = .ok (.iload 4, 2) := by decide +kernel
theorem dX4_enviesOf_7 : decode cX4_enviesOf 7 = .ok (.bipush 7, 2) := by decide +kernel
theorem dX4_enviesOf_9 : decode cX4_enviesOf 9 = .ok (.if_icmp .ge 28, 3) := by decide +kernel
theorem dX4_enviesOf_12 : decode cX4_enviesOf 12 = .ok (.iload_n 2, 1) := by decide +kernel
theorem dX4_enviesOf_13 : decode cX4_enviesOf 13 = .ok (.iload 4, 2) := by decide +kernel
theorem dX4_enviesOf_15 : decode cX4_enviesOf 15 = .ok (.invokestatic 41, 3) := by decide +kernel
theorem dX4_enviesOf_18 : decode cX4_enviesOf 18 = .ok (.ifCond .eq 13, 3) := by decide +kernel
theorem dX4_enviesOf_21 : decode cX4_enviesOf 21 = .ok (.iload_n 3, 1) := by decide +kernel
theorem dX4_enviesOf_22 : decode cX4_enviesOf 22 = .ok (.aload_n 0, 1) := by decide +kernel
theorem dX4_enviesOf_23 : decode cX4_enviesOf 23 = .ok (.iload_n 1, 1) := by decide +kernel
theorem dX4_enviesOf_24 : decode cX4_enviesOf 24 = .ok (.iload 4, 2) := by decide +kernel
theorem dX4_enviesOf_26 : decode cX4_enviesOf 26 = .ok (.invokevirtual 45, 3) := by decide +kernel
theorem dX4_enviesOf_29 : decode cX4_enviesOf 29 = .ok (.iadd, 1) := by decide +kernel
theorem dX4_enviesOf_30 : decode cX4_enviesOf 30 = .ok (.istore_n 3, 1) := by decide +kernel
theorem dX4_enviesOf_31 : decode cX4_enviesOf 31 = .ok (.iinc 4 1, 3) := by decide +kernel
theorem dX4_enviesOf_34 : decode cX4_enviesOf 34 = .ok (.goto (-29), 3) := by decide +kernel
theorem dX4_enviesOf_37 : decode cX4_enviesOf 37 = .ok (.iload_n 3, 1) := by decide +kernel
theorem dX4_enviesOf_38 : decode cX4_enviesOf 38 = .ok (.ireturn, 1) := by decide +kernel
set_option maxRecDepth 20000 in
theorem ggX4_enviesAmong_X5_contains : GoodIn wsX4_enviesAmong wsX5_contains := goodIn_r _ [3] rfl (by decide +kernel)
set_option maxRecDepth 20000 in
theorem gX4_enviesAmong_X5_contains_n41 : GoodIn wsX4_enviesAmong (wsX5_contains) := ggX4_enviesAmong_X5_contains
set_option maxRecDepth 20000 in
theorem ggX4_enviesAmong_X4_enviesOf : GoodIn wsX4_enviesAmong wsX4_enviesOf := goodIn_r _ [8, 1, 2, 3, 9, 10, 11, 7, 12, 13, 14, 15, 16, 17, 18, 19, 20, 21, 22, 23, 24, 25, 26, 27, 28, 29, 30, 31, 32, 33, 34, 35, 36, 37, 38, 39, 40, 41] rfl (by decide +kernel)
set_option maxRecDepth 20000 in
theorem gX4_enviesAmong_X4_enviesOf : GoodIn wsX4_enviesAmong (wsV RX4 48 RX4 yX4_enviesOf wsX4_enviesOf) := goodIn_app (goodIn_of _ (by decide +kernel)) ggX4_enviesAmong_X4_enviesOf
theorem dX4_enviesAmong_0 : decode cX4_enviesAmong 0 = .ok (.iconst 0, 1) := by decide +kernel
theorem dX4_enviesAmong_1 : decode cX4_enviesAmong 1 = .ok (.istore_n 2, 1) := by decide +kernel
theorem dX4_enviesAmong_2 : decode cX4_enviesAmong 2 = .ok (.iconst 0, 1) := by decide +kernel
theorem dX4_enviesAmong_3 : decode cX4_enviesAmong 3 = .ok (.istore_n 3, 1) := by decide +kernel
theorem dX4_enviesAmong_4 : decode cX4_enviesAmong 4 = .ok (.iload_n 3, 1) := by decide +kernel
theorem dX4_enviesAmong_5 : decode cX4_enviesAmong 5 = .ok (.bipush 7, 2) := by decide +kernel
theorem dX4_enviesAmong_7 : decode cX4_enviesAmong 7 = .ok (.if_icmp .ge 26, 3) := by decide +kernel
theorem dX4_enviesAmong_10 : decode cX4_enviesAmong 10 = .ok (.iload_n 1, 1) := by decide +kernel
theorem dX4_enviesAmong_11 : decode cX4_enviesAmong 11 = .ok (.iload_n 3, 1) := by decide +kernel
theorem dX4_enviesAmong_12 : decode cX4_enviesAmong 12 = .ok (.invokestatic 41, 3) := by decide +kernel
theorem dX4_enviesAmong_15 : decode cX4_enviesAmong 15 = .ok (.ifCond .eq 12, 3) := by decide +kernel
theorem dX4_enviesAmong_18 : decode cX4_enviesAmong 18 = .ok (.iload_n 2, 1) := by decide +kernel
theorem dX4_enviesAmong_19 : decode cX4_enviesAmong 19 = .ok (.aload_n 0, 1) := by decide +kernel
theorem dX4_enviesAmong_20 : decode cX4_enviesAmong 20 = .ok (.iload_n 3, 1) := by decide +kernel
theorem dX4_enviesAmong_21 : decode cX4_enviesAmong 21 = .ok (.iload_n 1, 1) := by decide +kernel
theorem dX4_enviesAmong_22 : decode cX4_enviesAmong 22 = .ok (.invokevirtual 48, 3) := by decide +kernel
theorem dX4_enviesAmong_25 : decode cX4_enviesAmong 25 = .ok (.iadd, 1) := by decide +kernel
theorem dX4_enviesAmong_26 : decode cX4_enviesAmong 26 = .ok (.istore_n 2, 1) := by decide +kernel
theorem dX4_enviesAmong_27 : decode cX4_enviesAmong 27 = .ok (.iinc 3 1, 3) := by decide +kernel
theorem dX4_enviesAmong_30 : decode cX4_enviesAmong 30 = .ok (.goto (-26), 3) := by decide +kernel
theorem dX4_enviesAmong_33 : decode cX4_enviesAmong 33 = .ok (.iload_n 2, 1) := by decide +kernel
theorem dX4_enviesAmong_34 : decode cX4_enviesAmong 34 = .ok (.ireturn, 1) := by decide +kernel
set_option maxRecDepth 20000 in
theorem ggX4_greatestEnvyOf_X4_envy : GoodIn wsX4_greatestEnvyOf wsX4_envy := goodIn_r _ [9, 1, 2, 3, 4, 10, 11, 12, 8, 13, 14, 15, 16, 17, 18, 19, 20, 21, 22, 23, 24, 25, 26, 27, 28, 29, 30, 31, 32, 33, 34] rfl (by decide +kernel)
set_option maxRecDepth 20000 in
theorem gX4_greatestEnvyOf_X4_envy : GoodIn wsX4_greatestEnvyOf (wsV RX4 45 RX4 yX4_envy wsX4_envy) := goodIn_app (goodIn_of _ (by decide +kernel)) ggX4_greatestEnvyOf_X4_envy
theorem dX4_greatestEnvyOf_0 : decode cX4_greatestEnvyOf 0 = .ok (.iconst 0, 1) := by decide +kernel
theorem dX4_greatestEnvyOf_1 : decode cX4_greatestEnvyOf 1 = .ok (.istore_n 2, 1) := by decide +kernel
theorem dX4_greatestEnvyOf_2 : decode cX4_greatestEnvyOf 2 = .ok (.iconst 0, 1) := by decide +kernel
theorem dX4_greatestEnvyOf_3 : decode cX4_greatestEnvyOf 3 = .ok (.istore_n 3, 1) := by decide +kernel
theorem dX4_greatestEnvyOf_4 : decode cX4_greatestEnvyOf 4 = .ok (.iload_n 3, 1) := by decide +kernel
theorem dX4_greatestEnvyOf_5 : decode cX4_greatestEnvyOf 5 = .ok (.bipush 7, 2) := by decide +kernel
theorem dX4_greatestEnvyOf_7 : decode cX4_greatestEnvyOf 7 = .ok (.if_icmp .ge 20, 3) := by decide +kernel
theorem dX4_greatestEnvyOf_10 : decode cX4_greatestEnvyOf 10 = .ok (.iload_n 2, 1) := by decide +kernel
theorem dX4_greatestEnvyOf_11 : decode cX4_greatestEnvyOf 11 = .ok (.aload_n 0, 1) := by decide +kernel
theorem dX4_greatestEnvyOf_12 : decode cX4_greatestEnvyOf 12 = .ok (.iload_n 1, 1) := by decide +kernel
theorem dX4_greatestEnvyOf_13 : decode cX4_greatestEnvyOf 13 = .ok (.iload_n 3, 1) := by decide +kernel
theorem dX4_greatestEnvyOf_14 : decode cX4_greatestEnvyOf 14 = .ok (.invokevirtual 45, 3) := by decide +kernel
theorem dX4_greatestEnvyOf_17 : decode cX4_greatestEnvyOf 17 = .ok (.invokestatic 36, 3) := by decide +kernel
theorem dX4_greatestEnvyOf_20 : decode cX4_greatestEnvyOf 20 = .ok (.istore_n 2, 1) := by decide +kernel
theorem dX4_greatestEnvyOf_21 : decode cX4_greatestEnvyOf 21 = .ok (.iinc 3 1, 3) := by decide +kernel
theorem dX4_greatestEnvyOf_24 : decode cX4_greatestEnvyOf 24 = .ok (.goto (-20), 3) := by decide +kernel
theorem dX4_greatestEnvyOf_27 : decode cX4_greatestEnvyOf 27 = .ok (.iload_n 2, 1) := by decide +kernel
theorem dX4_greatestEnvyOf_28 : decode cX4_greatestEnvyOf 28 = .ok (.ireturn, 1) := by decide +kernel
set_option maxRecDepth 20000 in
theorem ggX4_enviesTowards_X4_envy : GoodIn wsX4_enviesTowards wsX4_envy := goodIn_r _ [5, 6, 7, 8, 9, 10, 11, 12, 4, 13, 14, 15, 16, 17, 18, 19, 20, 21, 22, 23, 24, 25, 26, 27, 28, 29, 30, 31, 32, 33, 34] rfl (by decide +kernel)
set_option maxRecDepth 20000 in
theorem gX4_enviesTowards_X4_envy : GoodIn wsX4_enviesTowards (wsV RX4 45 RX4 yX4_envy wsX4_envy) := goodIn_app (goodIn_of _ (by decide +kernel)) ggX4_enviesTowards_X4_envy
theorem dX4_enviesTowards_0 : decode cX4_enviesTowards 0 = .ok (.iconst 0, 1) := by decide +kernel
theorem dX4_enviesTowards_1 : decode cX4_enviesTowards 1 = .ok (.istore_n 2, 1) := by decide +kernel
theorem dX4_enviesTowards_2 : decode cX4_enviesTowards 2 = .ok (.iconst 0, 1) := by decide +kernel
theorem dX4_enviesTowards_3 : decode cX4_enviesTowards 3 = .ok (.istore_n 3, 1) := by decide +kernel
theorem dX4_enviesTowards_4 : decode cX4_enviesTowards 4 = .ok (.iload_n 3, 1) := by decide +kernel
theorem dX4_enviesTowards_5 : decode cX4_enviesTowards 5 = .ok (.bipush 7, 2) := by decide +kernel
theorem dX4_enviesTowards_7 : decode cX4_enviesTowards 7 = .ok (.if_icmp .ge 18, 3) := by decide +kernel
theorem dX4_enviesTowards_10 : decode cX4_enviesTowards 10 = .ok (.iload_n 2, 1) := by decide +kernel
theorem dX4_enviesTowards_11 : decode cX4_enviesTowards 11 = .ok (.aload_n 0, 1) := by decide +kernel
theorem dX4_enviesTowards_12 : decode cX4_enviesTowards 12 = .ok (.iload_n 3, 1) := by decide +kernel
theorem dX4_enviesTowards_13 : decode cX4_enviesTowards 13 = .ok (.iload_n 1, 1) := by decide +kernel
theorem dX4_enviesTowards_14 : decode cX4_enviesTowards 14 = .ok (.invokevirtual 45, 3) := by decide +kernel
theorem dX4_enviesTowards_17 : decode cX4_enviesTowards 17 = .ok (.iadd, 1) := by decide +kernel
theorem dX4_enviesTowards_18 : decode cX4_enviesTowards 18 = .ok (.istore_n 2, 1) := by decide +kernel
theorem dX4_enviesTowards_19 : decode cX4_enviesTowards 19 = .ok (.iinc 3 1, 3) := by decide +kernel
theorem dX4_enviesTowards_22 : decode cX4_enviesTowards 22 = .ok (.goto (-18), 3) := by decide +kernel
theorem dX4_enviesTowards_25 : decode cX4_enviesTowards 25 = .ok (.iload_n 2, 1) := by decide +kernel
theorem dX4_enviesTowards_26 : decode cX4_enviesTowards 26 = .ok (.ireturn, 1) := by decide +kernel
set_option maxRecDepth 20000 in
theorem ggX4_contentCousins_X4_greatestEnvyOf : GoodIn wsX4_contentCousins wsX4_greatestEnvyOf := goodIn_r _ [5, 6, 7, 8, 9, 10, 11, 12, 4, 13, 14, 15, 16, 17, 18, 19, 20, 21, 22, 23, 24, 25, 26, 27, 28, 29, 30, 31, 32, 33, 34, 35, 36, 37, 38] rfl (by decide +kernel)
set_option maxRecDepth 20000 in
theorem gX4_contentCousins_X4_greatestEnvyOf : GoodIn wsX4_contentCousins (wsV RX4 51 RX4 yX4_greatestEnvyOf wsX4_greatestEnvyOf) := goodIn_app (goodIn_of _ (by decide +kernel)) ggX4_contentCousins_X4_greatestEnvyOf
theorem dX4_contentCousins_0 : decode cX4_contentCousins 0 = .ok (.iconst 0, 1) := by decide +kernel
