/-! the law's words stand in the tables -/
set_option maxHeartbeats 4000000 in
set_option maxRecDepth 100000 in
theorem wLi_1 : GoodIn lw_tbl wsL_law_r1 := goodIn_p _ [35, 38] rfl (by decide +kernel)
set_option maxHeartbeats 4000000 in
set_option maxRecDepth 100000 in
theorem wLi_2 : GoodIn lw_tbl wsL_law_r2 := goodIn_p _ [43, 48] rfl (by decide +kernel)
set_option maxHeartbeats 4000000 in
set_option maxRecDepth 100000 in
theorem wLi_3 : GoodIn lw_tbl wsL_law_r3 := goodIn_p _ [52, 96, 131, 156, 195] rfl (by decide +kernel)
set_option maxHeartbeats 4000000 in
set_option maxRecDepth 100000 in
theorem wLi_4 : GoodIn lw_tbl wsL_law_r4 := goodIn_p _ [530, 506, 236, 331] rfl (by decide +kernel)
set_option maxHeartbeats 4000000 in
set_option maxRecDepth 100000 in
theorem wLi_5 : GoodIn lw_tbl wsL_law_r5 := goodIn_p _ [511, 268, 437, 429, 444, 327] rfl (by decide +kernel)
set_option maxHeartbeats 4000000 in
set_option maxRecDepth 100000 in
theorem wLi_6 : GoodIn lw_tbl wsL_law_r6 := goodIn_p _ [515, 306, 475, 319, 452, 457, 448] rfl (by decide +kernel)
set_option maxHeartbeats 4000000 in
set_option maxRecDepth 100000 in
theorem wLi_7 : GoodIn lw_tbl wsL_law_r7 := goodIn_p _ [484, 522, 526, 302, 433] rfl (by decide +kernel)
set_option maxHeartbeats 4000000 in
set_option maxRecDepth 100000 in
theorem wLi_8 : GoodIn lw_tbl wsL_law_r8 := goodIn_p _ [343, 461, 466, 470] rfl (by decide +kernel)
set_option maxHeartbeats 4000000 in
set_option maxRecDepth 100000 in
theorem wLi_9 : GoodIn lw_tbl wsL_law_r9 := goodIn_p _ [480, 488, 534, 538] rfl (by decide +kernel)
set_option maxHeartbeats 4000000 in
set_option maxRecDepth 100000 in
theorem wLi_10 : GoodIn lw_tbl wsL_law_r10 := goodIn_p _ [542, 546, 416, 420, 254] rfl (by decide +kernel)
set_option maxHeartbeats 4000000 in
set_option maxRecDepth 100000 in
theorem wLi_11 : GoodIn lw_tbl wsL_law_r11 := goodIn_p _ [424, 246, 250, 363] rfl (by decide +kernel)
set_option maxHeartbeats 4000000 in
set_option maxRecDepth 100000 in
theorem wLi_12 : GoodIn lw_tbl wsL_law_r12 := goodIn_p _ [367, 371, 375, 379, 386] rfl (by decide +kernel)
set_option maxHeartbeats 4000000 in
set_option maxRecDepth 100000 in
theorem wLi_13 : GoodIn lw_tbl wsL_law_r13 := goodIn_p _ [383, 390, 394, 398, 402] rfl (by decide +kernel)
set_option maxHeartbeats 4000000 in
set_option maxRecDepth 100000 in
theorem wLi_14 : GoodIn lw_tbl wsL_law_r14 := goodIn_p _ [407, 261, 272, 411, 290] rfl (by decide +kernel)
set_option maxHeartbeats 4000000 in
set_option maxRecDepth 100000 in
theorem wLi_15 : GoodIn lw_tbl wsL_law_r15 := goodIn_p _ [294, 298, 309] rfl (by decide +kernel)
set_option maxHeartbeats 4000000 in
set_option maxRecDepth 100000 in
theorem wLi_16 : GoodIn lw_tbl wsL_law_r16 := goodIn_p _ [316, 323, 335, 339, 347] rfl (by decide +kernel)
set_option maxHeartbeats 4000000 in
set_option maxRecDepth 100000 in
theorem wLi_17 : GoodIn lw_tbl wsL_law_r17 := goodIn_p _ [350, 354, 492, 562, 495, 233, 239] rfl (by decide +kernel)
set_option maxHeartbeats 4000000 in
set_option maxRecDepth 100000 in
theorem wLi_18 : GoodIn lw_tbl wsL_law_r18 := goodIn_p _ [242, 265, 566, 276, 279, 359] rfl (by decide +kernel)
set_option maxHeartbeats 4000000 in
set_option maxRecDepth 100000 in
theorem wLi_19 : GoodIn lw_tbl wsL_law_r19 := goodIn_p _ [570, 574, 578, 582, 586, 589] rfl (by decide +kernel)
set_option maxHeartbeats 4000000 in
set_option maxRecDepth 100000 in
theorem wLi_20 : GoodIn lw_tbl wsL_law_r20 := goodIn_p _ [593, 286, 283, 596, 499, 502, 550] rfl (by decide +kernel)
set_option maxHeartbeats 4000000 in
set_option maxRecDepth 100000 in
theorem wLi_21 : GoodIn lw_tbl wsL_law_r21 := goodIn_p _ [554, 558] rfl (by decide +kernel)
set_option maxHeartbeats 4000000 in
set_option maxRecDepth 100000 in
theorem wLx_0 : GoodIn lw_tbl wsX00 := goodIn_p _ [] rfl (by decide +kernel)
set_option maxHeartbeats 4000000 in
set_option maxRecDepth 100000 in
theorem wLx_1 : GoodIn lw_tbl wsX10 := goodIn_p _ [] rfl (by decide +kernel)
set_option maxHeartbeats 4000000 in
set_option maxRecDepth 100000 in
theorem wLx_2 : GoodIn lw_tbl wsX20 := goodIn_p _ [] rfl (by decide +kernel)
set_option maxHeartbeats 4000000 in
set_option maxRecDepth 100000 in
theorem wLx_3 : GoodIn lw_tbl wsX30 := goodIn_p _ [] rfl (by decide +kernel)
set_option maxHeartbeats 4000000 in
set_option maxRecDepth 100000 in
theorem wLx_4 : GoodIn lw_tbl wsX40 := goodIn_p _ [] rfl (by decide +kernel)
set_option maxHeartbeats 4000000 in
set_option maxRecDepth 100000 in
theorem wLx_5 : GoodIn lw_tbl wsX50 := goodIn_p _ [] rfl (by decide +kernel)
theorem wsL_law_in : ∀ w ∈ wsL_law, w ∈ lw_tbl := fun w h => ((goodIn_app (goodIn_app (goodIn_app (goodIn_app (goodIn_app (goodIn_app (goodIn_app (goodIn_app wLi_1 (goodIn_app wLi_2 (goodIn_app wLi_3 (goodIn_app wLi_4 (goodIn_app wLi_5 (goodIn_app wLi_6 (goodIn_app wLi_7 (goodIn_app wLi_8 (goodIn_app wLi_9 (goodIn_app wLi_10 (goodIn_app wLi_11 (goodIn_app wLi_12 (goodIn_app wLi_13 (goodIn_app wLi_14 (goodIn_app wLi_15 (goodIn_app wLi_16 (goodIn_app wLi_17 (goodIn_app wLi_18 (goodIn_app wLi_19 (goodIn_app wLi_20 wLi_21)))))))))))))))))))) wLx_5) wLx_1) wLx_0) wLx_4) wLx_3) wLx_2) (fun _ h => absurd h List.not_mem_nil)) w h).1
theorem inX0 : ∀ w ∈ wsX00, w ∈ lw_tbl := fun w h => wsL_law_in w (inlX0 w h)
theorem inX1 : ∀ w ∈ wsX10, w ∈ lw_tbl := fun w h => wsL_law_in w (inlX1 w h)
theorem inX2 : ∀ w ∈ wsX20, w ∈ lw_tbl := fun w h => wsL_law_in w (inlX2 w h)
theorem inX3 : ∀ w ∈ wsX30, w ∈ lw_tbl := fun w h => wsL_law_in w (inlX3 w h)
theorem inX4 : ∀ w ∈ wsX40, w ∈ lw_tbl := fun w h => wsL_law_in w (inlX4 w h)
theorem inX5 : ∀ w ∈ wsX50, w ∈ lw_tbl := fun w h => wsL_law_in w (inlX5 w h)
