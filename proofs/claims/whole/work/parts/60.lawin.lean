/-! the law's words stand in the tables -/
set_option maxHeartbeats 4000000 in
set_option maxRecDepth 100000 in
theorem wLi_1 : GoodIn lw_tbl wsL_law_r1 := goodIn_p _ [73, 76] rfl (by decide +kernel)
set_option maxHeartbeats 4000000 in
set_option maxRecDepth 100000 in
theorem wLi_2 : GoodIn lw_tbl wsL_law_r2 := goodIn_p _ [81] rfl (by decide +kernel)
set_option maxHeartbeats 4000000 in
set_option maxRecDepth 100000 in
theorem wLi_3 : GoodIn lw_tbl wsL_law_r3 := goodIn_p _ [86, 90, 134, 169, 194] rfl (by decide +kernel)
set_option maxHeartbeats 4000000 in
set_option maxRecDepth 100000 in
theorem wLi_4 : GoodIn lw_tbl wsL_law_r4 := goodIn_p _ [233, 624, 271, 274] rfl (by decide +kernel)
set_option maxHeartbeats 4000000 in
set_option maxRecDepth 100000 in
theorem wLi_5 : GoodIn lw_tbl wsL_law_r5 := goodIn_p _ [277, 280, 284, 288, 292] rfl (by decide +kernel)
set_option maxHeartbeats 4000000 in
set_option maxRecDepth 100000 in
theorem wLi_6 : GoodIn lw_tbl wsL_law_r6 := goodIn_p _ [299, 657, 660, 663, 666, 670] rfl (by decide +kernel)
set_option maxHeartbeats 4000000 in
set_option maxRecDepth 100000 in
theorem wLi_7 : GoodIn lw_tbl wsL_law_r7 := goodIn_p _ [674, 303, 306, 310, 678, 681] rfl (by decide +kernel)
set_option maxHeartbeats 4000000 in
set_option maxRecDepth 100000 in
theorem wLi_8 : GoodIn lw_tbl wsL_law_r8 := goodIn_p _ [314, 318, 322, 685, 326, 329] rfl (by decide +kernel)
set_option maxHeartbeats 4000000 in
set_option maxRecDepth 100000 in
theorem wLi_9 : GoodIn lw_tbl wsL_law_r9 := goodIn_p _ [689, 333, 336, 340] rfl (by decide +kernel)
set_option maxHeartbeats 4000000 in
set_option maxRecDepth 100000 in
theorem wLi_10 : GoodIn lw_tbl wsL_law_r10 := goodIn_p _ [344, 348, 352, 356, 359] rfl (by decide +kernel)
set_option maxHeartbeats 4000000 in
set_option maxRecDepth 100000 in
theorem wLi_11 : GoodIn lw_tbl wsL_law_r11 := goodIn_p _ [366, 369, 373, 377, 381, 385] rfl (by decide +kernel)
set_option maxHeartbeats 4000000 in
set_option maxRecDepth 100000 in
theorem wLi_12 : GoodIn lw_tbl wsL_law_r12 := goodIn_p _ [389, 394, 397, 401, 693, 697] rfl (by decide +kernel)
set_option maxHeartbeats 4000000 in
set_option maxRecDepth 100000 in
theorem wLi_13 : GoodIn lw_tbl wsL_law_r13 := goodIn_p _ [701, 705, 709, 713, 717, 720] rfl (by decide +kernel)
set_option maxHeartbeats 4000000 in
set_option maxRecDepth 100000 in
theorem wLi_14 : GoodIn lw_tbl wsL_law_r14 := goodIn_p _ [724, 728, 732, 736, 740, 406] rfl (by decide +kernel)
set_option maxHeartbeats 4000000 in
set_option maxRecDepth 100000 in
theorem wLi_15 : GoodIn lw_tbl wsL_law_r15 := goodIn_p _ [744, 410, 414, 420, 425] rfl (by decide +kernel)
set_option maxHeartbeats 4000000 in
set_option maxRecDepth 100000 in
theorem wLi_16 : GoodIn lw_tbl wsL_law_r16 := goodIn_p _ [429, 433, 437, 441, 446, 450] rfl (by decide +kernel)
set_option maxHeartbeats 4000000 in
set_option maxRecDepth 100000 in
theorem wLi_17 : GoodIn lw_tbl wsL_law_r17 := goodIn_p _ [457, 454, 748, 752, 756, 760] rfl (by decide +kernel)
set_option maxHeartbeats 4000000 in
set_option maxRecDepth 100000 in
theorem wLi_18 : GoodIn lw_tbl wsL_law_r18 := goodIn_p _ [764, 768, 772, 776, 461] rfl (by decide +kernel)
set_option maxHeartbeats 4000000 in
set_option maxRecDepth 100000 in
theorem wLi_19 : GoodIn lw_tbl wsL_law_r19 := goodIn_p _ [465, 470, 780, 784, 788] rfl (by decide +kernel)
set_option maxHeartbeats 4000000 in
set_option maxRecDepth 100000 in
theorem wLi_20 : GoodIn lw_tbl wsL_law_r20 := goodIn_p _ [476, 480, 792, 484, 796] rfl (by decide +kernel)
set_option maxHeartbeats 4000000 in
set_option maxRecDepth 100000 in
theorem wLi_21 : GoodIn lw_tbl wsL_law_r21 := goodIn_p _ [488, 492, 496, 500, 504] rfl (by decide +kernel)
set_option maxHeartbeats 4000000 in
set_option maxRecDepth 100000 in
theorem wLi_22 : GoodIn lw_tbl wsL_law_r22 := goodIn_p _ [511, 508, 515, 519, 523, 527] rfl (by decide +kernel)
set_option maxHeartbeats 4000000 in
set_option maxRecDepth 100000 in
theorem wLi_23 : GoodIn lw_tbl wsL_law_r23 := goodIn_p _ [532, 800, 804, 808] rfl (by decide +kernel)
set_option maxHeartbeats 4000000 in
set_option maxRecDepth 100000 in
theorem wLi_24 : GoodIn lw_tbl wsL_law_r24 := goodIn_p _ [812, 816, 820, 824, 828, 832] rfl (by decide +kernel)
set_option maxHeartbeats 4000000 in
set_option maxRecDepth 100000 in
theorem wLi_25 : GoodIn lw_tbl wsL_law_r25 := goodIn_p _ [836, 537, 541, 840, 545] rfl (by decide +kernel)
set_option maxHeartbeats 4000000 in
set_option maxRecDepth 100000 in
theorem wLi_26 : GoodIn lw_tbl wsL_law_r26 := goodIn_p _ [550, 844, 848, 554, 852, 558] rfl (by decide +kernel)
set_option maxHeartbeats 4000000 in
set_option maxRecDepth 100000 in
theorem wLi_27 : GoodIn lw_tbl wsL_law_r27 := goodIn_p _ [856, 563, 568, 574, 578] rfl (by decide +kernel)
set_option maxHeartbeats 4000000 in
set_option maxRecDepth 100000 in
theorem wLi_28 : GoodIn lw_tbl wsL_law_r28 := goodIn_p _ [582, 860, 864, 868, 587] rfl (by decide +kernel)
set_option maxHeartbeats 4000000 in
set_option maxRecDepth 100000 in
theorem wLi_29 : GoodIn lw_tbl wsL_law_r29 := goodIn_p _ [872, 593, 597, 602, 876, 880] rfl (by decide +kernel)
set_option maxHeartbeats 4000000 in
set_option maxRecDepth 100000 in
theorem wLi_30 : GoodIn lw_tbl wsL_law_r30 := goodIn_p _ [884, 606, 888, 892, 610, 896] rfl (by decide +kernel)
set_option maxHeartbeats 4000000 in
set_option maxRecDepth 100000 in
theorem wLi_31 : GoodIn lw_tbl wsL_law_r31 := goodIn_p _ [614, 618, 900] rfl (by decide +kernel)
set_option maxHeartbeats 4000000 in
set_option maxRecDepth 100000 in
theorem wLx_0 : GoodIn lw_tbl wsX00 := goodIn_p _ [] rfl (by decide +kernel)
set_option maxHeartbeats 4000000 in
set_option maxRecDepth 100000 in
theorem wLx_1 : GoodIn lw_tbl wsX10 := goodIn_p _ [] rfl (by decide +kernel)
set_option maxHeartbeats 4000000 in
set_option maxRecDepth 100000 in
theorem wLx_2 : GoodIn lw_tbl wsX20 := goodIn_p _ [] rfl (by decide +kernel)
set_option maxHeartbeats 4000000 in
set_option maxRecDepth 100000 in
theorem wLx_3 : GoodIn lw_tbl wsX30 := goodIn_p _ [] rfl (by decide +kernel)
set_option maxHeartbeats 4000000 in
set_option maxRecDepth 100000 in
theorem wLx_4 : GoodIn lw_tbl wsX40 := goodIn_p _ [] rfl (by decide +kernel)
set_option maxHeartbeats 4000000 in
set_option maxRecDepth 100000 in
theorem wLx_5 : GoodIn lw_tbl wsX50 := goodIn_p _ [] rfl (by decide +kernel)
set_option maxHeartbeats 4000000 in
set_option maxRecDepth 100000 in
theorem wLx_6 : GoodIn lw_tbl wsX60 := goodIn_p _ [] rfl (by decide +kernel)
theorem wsL_law_in : ∀ w ∈ wsL_law, w ∈ lw_tbl := fun w h => ((goodIn_app (goodIn_app (goodIn_app (goodIn_app (goodIn_app (goodIn_app (goodIn_app (goodIn_app (goodIn_app wLi_1 (goodIn_app wLi_2 (goodIn_app wLi_3 (goodIn_app wLi_4 (goodIn_app wLi_5 (goodIn_app wLi_6 (goodIn_app wLi_7 (goodIn_app wLi_8 (goodIn_app wLi_9 (goodIn_app wLi_10 (goodIn_app wLi_11 (goodIn_app wLi_12 (goodIn_app wLi_13 (goodIn_app wLi_14 (goodIn_app wLi_15 (goodIn_app wLi_16 (goodIn_app wLi_17 (goodIn_app wLi_18 (goodIn_app wLi_19 (goodIn_app wLi_20 (goodIn_app wLi_21 (goodIn_app wLi_22 (goodIn_app wLi_23 (goodIn_app wLi_24 (goodIn_app wLi_25 (goodIn_app wLi_26 (goodIn_app wLi_27 (goodIn_app wLi_28 (goodIn_app wLi_29 (goodIn_app wLi_30 wLi_31)))))))))))))))))))))))))))))) wLx_5) wLx_6) wLx_1) wLx_0) wLx_4) wLx_3) wLx_2) (fun _ h => absurd h List.not_mem_nil)) w h).1
theorem inX0 : ∀ w ∈ wsX00, w ∈ lw_tbl := fun w h => wsL_law_in w (inlX0 w h)
theorem inX1 : ∀ w ∈ wsX10, w ∈ lw_tbl := fun w h => wsL_law_in w (inlX1 w h)
theorem inX2 : ∀ w ∈ wsX20, w ∈ lw_tbl := fun w h => wsL_law_in w (inlX2 w h)
theorem inX3 : ∀ w ∈ wsX30, w ∈ lw_tbl := fun w h => wsL_law_in w (inlX3 w h)
theorem inX4 : ∀ w ∈ wsX40, w ∈ lw_tbl := fun w h => wsL_law_in w (inlX4 w h)
theorem inX5 : ∀ w ∈ wsX50, w ∈ lw_tbl := fun w h => wsL_law_in w (inlX5 w h)
theorem inX6 : ∀ w ∈ wsX60, w ∈ lw_tbl := fun w h => wsL_law_in w (inlX6 w h)
