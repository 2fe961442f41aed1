set_option maxHeartbeats 4000000 in
set_option maxRecDepth 100000 in
theorem m_isWhole (l : Launch) (G : gG) (AA : Nat → Prop) (c0 hbd : Nat) (M : Nat → Nat) (hp : q_HP)  (hv : q_iv hbd M) (hnb : hbd < 1000000) : Met l yL_isWhole wsL_isWhole ({ frames := 7, cells := 0, slots := 0, locals := 177 } : Room) (q_PO G AA (q_OB G AA c0 hbd M hp) [.ref c0]) (va_Qi (fun (r : Int32) (u : Unit) => r = nI 1 ∧ (True)) (fun (u : Unit) (t : State) => (q_OB G AA c0 hbd M hp) t.heap) AA) 0 0 AA := obM (C := RL) rfl (by decide) rfl (Nat.le_of_ble_eq_true rfl) (fun pX eX sX mX bX meX cX ls hx hb hr hts hown hlk hml hAA hO hK hNW hS hl => by
  have hl : lv_has ls 13 [(0, .ref c0)] := hl
  have h0k := hv.1
  have hv2 := hv.2.1
  have h198 : M 198 < 11 := h0k.2.2.2.2.2.2
  have htd := td_le M (ow M 0) (n := 49)
  have hes : es M (ow M 0) 127 127 ≤ 723975 := es_le h0k
  have hp7 := pc4_le (ow M 0) 7
  have hct : sm (fun c => bb (me M (ow M 0) c 7 = 0)) 7 ≤ 7 * 1 := sm_le (f := fun c => bb (me M (ow M 0) c 7 = 0)) (b := 1) (n := 7) (fun j _ => by have := @bb_lt (me M (ow M 0) j 7 = 0) _; show bb _ ≤ 1; omega)
  refine nr_const (v := 0) hx hb dL_isWhole_0 rfl ?_
  refine lv_istore_n (lv' := [(1, .int (nI 0)), (0, .ref c0)]) hx hb dL_isWhole_1 rfl hl (by decide) rfl (fun ls hl => ?_)
  refine nr_const (v := 0) hx hb dL_isWhole_2 rfl ?_
  refine lv_istore_n (lv' := [(2, .int (nI 0)), (1, .int (nI 0)), (0, .ref c0)]) hx hb dL_isWhole_3 rfl hl (by decide) rfl (fun ls hl => ?_)
  refine nr_const (v := 0) hx hb dL_isWhole_4 rfl ?_
  refine lv_istore_n (lv' := [(3, .int (nI 0)), (2, .int (nI 0)), (1, .int (nI 0)), (0, .ref c0)]) hx hb dL_isWhole_5 rfl hl (by decide) rfl (fun ls hl => ?_)
  refine nr_const (v := 0) hx hb dL_isWhole_6 rfl ?_
  refine lv_istore (lv' := [(4, .int (nI 0)), (3, .int (nI 0)), (2, .int (nI 0)), (1, .int (nI 0)), (0, .ref c0)]) hx hb dL_isWhole_7 hl (by decide) rfl (fun ls hl => ?_)
  refine nr_const (v := 0) hx hb dL_isWhole_9 rfl ?_
  refine lv_istore (lv' := [(5, .int (nI 0)), (4, .int (nI 0)), (3, .int (nI 0)), (2, .int (nI 0)), (1, .int (nI 0)), (0, .ref c0)]) hx hb dL_isWhole_10 hl (by decide) rfl (fun ls hl => ?_)
  refine nr_const (v := 0) hx hb dL_isWhole_12 rfl ?_
  refine lv_istore (lv' := [(6, .int (nI 0)), (5, .int (nI 0)), (4, .int (nI 0)), (3, .int (nI 0)), (2, .int (nI 0)), (1, .int (nI 0)), (0, .ref c0)]) hx hb dL_isWhole_13 hl (by decide) rfl (fun ls hl => ?_)
  refine loop_o (T := Nat) (nL := 13) (fun k => k ≤ 24) (fun k => 24 - k) (fun k => [(6, .int (nI k)), (5, .int (nI 0)), (4, .int (nI 0)), (3, .int (nI 0)), (2, .int (nI 0)), (1, .int (nI (sm (fun j => bb (ow M 0 j = 7)) k))), (0, .ref c0)]) (fun k => q_OB G AA c0 hbd M hp) ?_ 0 (lv_sub hl [0, 1, 2, 3, 4, 5, 6] rfl) hO hS (by omega)
  intro k ls H locs hl hO hS hi2 ih1
  have hi2_0 := hi2
  have hi2_0 : k ≤ 24 := hi2_0
  have hO : q_OB G AA c0 hbd M hp _ := hO
  have hl : lv_has ls 13 [(6, .int (nI k)), (5, .int (nI 0)), (4, .int (nI 0)), (3, .int (nI 0)), (2, .int (nI 0)), (1, .int (nI (sm (fun j => bb (ow M 0 j = 7)) k))), (0, .ref c0)] := hl
  refine lv_iload hx hb dL_isWhole_15 (lv_at hl 0 rfl) ?_
  refine nr_bi (v := 24) hx hb dL_isWhole_17 (by decide +kernel) ?_
  refine br_ige (tgt := 66) hx hb dL_isWhole_19 (by decide) (by omega) (by decide) (fun h3 => ?_) (fun h3 => ?_)
  · skip
    have e2 : k = 24 := (by omega)
    subst e2
    have hl : lv_has ls 13 [(6, .int (nI 24)), (5, .int (nI 0)), (4, .int (nI 0)), (3, .int (nI 0)), (2, .int (nI 0)), (1, .int (nI (sm (fun j => bb (ow M 0 j = 7)) 24))), (0, .ref c0)] := hl
    have hl : lv_has ls 13 [(6, .int (nI 24)), (5, .int (nI 0)), (4, .int (nI 0)), (3, .int (nI 0)), (2, .int (nI 0)), (1, .int (nI (pc4 (ow M 0) 7))), (0, .ref c0)] := hl
    refine nr_const (v := 0) hx hb dL_isWhole_66 rfl ?_
    refine lv_istore (lv' := [(6, .int (nI 0)), (5, .int (nI 0)), (4, .int (nI 0)), (3, .int (nI 0)), (2, .int (nI 0)), (1, .int (nI (pc4 (ow M 0) 7))), (0, .ref c0)]) hx hb dL_isWhole_67 hl (by decide) rfl (fun ls hl => ?_)
    refine loop_o (T := Nat) (nL := 13) (fun c => c ≤ 7) (fun c => 7 - c) (fun c => [(6, .int (nI c)), (5, .int (nI (td M (ow M 0) (7 * c)))), (4, .int (nI (sm (fun j => bb (me M (ow M 0) j 7 = 0)) c))), (3, .int (nI (sm (fun j => es M (ow M 0) 127 (2 ^ j)) c))), (2, .int (nI (sm (fun j => es M (ow M 0) (2 ^ j) 127) c))), (1, .int (nI (pc4 (ow M 0) 7))), (0, .ref c0)]) (fun c => q_OB G AA c0 hbd M hp) ?_ 0 (lv_sub hl [0, 1, 2, 3, 4, 5, 6] rfl) hO hS (by omega)
    intro c ls H locs hl hO hS hi5 ih4
    have hi5_0 := hi5
    have hi5_0 : c ≤ 7 := hi5_0
    have hO : q_OB G AA c0 hbd M hp _ := hO
    have hl : lv_has ls 13 [(6, .int (nI c)), (5, .int (nI (td M (ow M 0) (7 * c)))), (4, .int (nI (sm (fun j => bb (me M (ow M 0) j 7 = 0)) c))), (3, .int (nI (sm (fun j => es M (ow M 0) 127 (2 ^ j)) c))), (2, .int (nI (sm (fun j => es M (ow M 0) (2 ^ j) 127) c))), (1, .int (nI (pc4 (ow M 0) 7))), (0, .ref c0)] := hl
    refine lv_iload hx hb dL_isWhole_69 (lv_at hl 0 rfl) ?_
    refine nr_bi (v := 7) hx hb dL_isWhole_71 (by decide +kernel) ?_
    refine br_ige (tgt := 342) hx hb dL_isWhole_73 (by decide) (by omega) (by decide) (fun h6 => ?_) (fun h6 => ?_)
    · skip
      have e2 : c = 7 := (by omega)
      subst e2
      have hl : lv_has ls 13 [(6, .int (nI 7)), (5, .int (nI (td M (ow M 0) (7 * 7)))), (4, .int (nI (sm (fun j => bb (me M (ow M 0) j 7 = 0)) 7))), (3, .int (nI (sm (fun j => es M (ow M 0) 127 (2 ^ j)) 7))), (2, .int (nI (sm (fun j => es M (ow M 0) (2 ^ j) 127) 7))), (1, .int (nI (pc4 (ow M 0) 7))), (0, .ref c0)] := hl
      have hl := hl
      rw [es_A, es_B] at hl
      have hl : lv_has ls 13 [(6, .int (nI 7)), (5, .int (nI (td M (ow M 0) 49))), (4, .int (nI (sm (fun c => bb (me M (ow M 0) c 7 = 0)) 7))), (3, .int (nI (es M (ow M 0) 127 127))), (2, .int (nI (es M (ow M 0) 127 127))), (1, .int (nI (pc4 (ow M 0) 7))), (0, .ref c0)] := hl
      refine lv_aload_n hx hb dL_isWhole_342 rfl (lv_at hl 6 rfl) ?_
      refine nr_const (v := 2) hx hb dL_isWhole_343 rfl ?_
      refine k_total ⟨hx, hb, hml, hown, hts⟩ (cwV 1 hts gL_isWhole_X5_total rfl rfl rfl (by decide +kernel) ⟨Nat.le_of_ble_eq_true rfl, Nat.le_of_ble_eq_true rfl⟩) hK hNW hAA (by decide) hO hS hl.1 (Nat.le_of_ble_eq_true rfl) dL_isWhole_344 ⟨Nat.zero_le _, Nat.zero_le _⟩ (fun H locs hO hS => ?_)
      have hO : q_OB G AA c0 hbd M hp _ := hO
      refine nr_top (y := nI (pc4 (ow M 0) 7)) (to_2) ?_
      refine lv_iload_n hx hb dL_isWhole_347 rfl (lv_at hl 5 rfl) ?_
      refine br_ine (tgt := 432) hx hb dL_isWhole_348 (by decide) (by omega) (by omega) (fun h7 => ?_) (fun h7 => ?_)
      · exact absurd rfl h7
      · skip
        refine lv_aload_n hx hb dL_isWhole_351 rfl (lv_at hl 6 rfl) ?_
        refine nr_const (v := 3) hx hb dL_isWhole_352 rfl ?_
        refine k_total ⟨hx, hb, hml, hown, hts⟩ (cwV 1 hts gL_isWhole_X5_total rfl rfl rfl (by decide +kernel) ⟨Nat.le_of_ble_eq_true rfl, Nat.le_of_ble_eq_true rfl⟩) hK hNW hAA (by decide) hO hS hl.1 (Nat.le_of_ble_eq_true rfl) dL_isWhole_353 ⟨Nat.zero_le _, Nat.zero_le _⟩ (fun H locs hO hS => ?_)
        have hO : q_OB G AA c0 hbd M hp _ := hO
        refine nr_top (y := nI (es M (ow M 0) 127 127)) (to_3) ?_
        refine lv_iload_n hx hb dL_isWhole_356 rfl (lv_at hl 4 rfl) ?_
        refine br_ine (tgt := 432) hx hb dL_isWhole_357 (by decide) (by omega) (by omega) (fun h8 => ?_) (fun h8 => ?_)
        · exact absurd rfl h8
        · skip
          refine lv_iload_n hx hb dL_isWhole_360 rfl (lv_at hl 4 rfl) ?_
          refine lv_iload_n hx hb dL_isWhole_361 rfl (lv_at hl 3 rfl) ?_
          refine br_ine (tgt := 432) hx hb dL_isWhole_362 (by decide) (by omega) (by omega) (fun h9 => ?_) (fun h9 => ?_)
          · exact absurd rfl h9
          · skip
            refine lv_aload_n hx hb dL_isWhole_365 rfl (lv_at hl 6 rfl) ?_
            refine nr_const (v := 4) hx hb dL_isWhole_366 rfl ?_
            refine k_total ⟨hx, hb, hml, hown, hts⟩ (cwV 1 hts gL_isWhole_X5_total rfl rfl rfl (by decide +kernel) ⟨Nat.le_of_ble_eq_true rfl, Nat.le_of_ble_eq_true rfl⟩) hK hNW hAA (by decide) hO hS hl.1 (Nat.le_of_ble_eq_true rfl) dL_isWhole_367 ⟨Nat.zero_le _, Nat.zero_le _⟩ (fun H locs hO hS => ?_)
            have hO : q_OB G AA c0 hbd M hp _ := hO
            refine nr_top (y := nI (sm (fun c => bb (me M (ow M 0) c 7 = 0)) 7)) (to_4) ?_
            refine lv_iload hx hb dL_isWhole_370 (lv_at hl 2 rfl) ?_
            refine br_ine (tgt := 432) hx hb dL_isWhole_372 (by decide) (by omega) (by omega) (fun h10 => ?_) (fun h10 => ?_)
            · exact absurd rfl h10
            · skip
              refine lv_aload_n hx hb dL_isWhole_375 rfl (lv_at hl 6 rfl) ?_
              refine nr_const (v := 5) hx hb dL_isWhole_376 rfl ?_
              refine k_total ⟨hx, hb, hml, hown, hts⟩ (cwV 1 hts gL_isWhole_X5_total rfl rfl rfl (by decide +kernel) ⟨Nat.le_of_ble_eq_true rfl, Nat.le_of_ble_eq_true rfl⟩) hK hNW hAA (by decide) hO hS hl.1 (Nat.le_of_ble_eq_true rfl) dL_isWhole_377 ⟨Nat.zero_le _, Nat.zero_le _⟩ (fun H locs hO hS => ?_)
              have hO : q_OB G AA c0 hbd M hp _ := hO
              refine nr_top (y := nI (td M (ow M 0) 49)) (to_5) ?_
              refine lv_iload hx hb dL_isWhole_380 (lv_at hl 1 rfl) ?_
              refine br_ine (tgt := 432) hx hb dL_isWhole_382 (by decide) (by omega) (by omega) (fun h11 => ?_) (fun h11 => ?_)
              · exact absurd rfl h11
              · skip
                refine lv_aload_n hx hb dL_isWhole_385 rfl (lv_at hl 6 rfl) ?_
                refine nr_bi (v := 7) hx hb dL_isWhole_386 (by decide +kernel) ?_
                refine k_total ⟨hx, hb, hml, hown, hts⟩ (cwV 1 hts gL_isWhole_X5_total rfl rfl rfl (by decide +kernel) ⟨Nat.le_of_ble_eq_true rfl, Nat.le_of_ble_eq_true rfl⟩) hK hNW hAA (by decide) hO hS hl.1 (Nat.le_of_ble_eq_true rfl) dL_isWhole_388 ⟨Nat.zero_le _, Nat.zero_le _⟩ (fun H locs hO hS => ?_)
                have hO : q_OB G AA c0 hbd M hp _ := hO
                refine nr_top (y := nI (M 200)) (to_7) ?_
                refine lv_aload_n hx hb dL_isWhole_391 rfl (lv_at hl 6 rfl) ?_
                refine nr_bi (v := 6) hx hb dL_isWhole_392 (by decide +kernel) ?_
                refine k_total ⟨hx, hb, hml, hown, hts⟩ (cwV 1 hts gL_isWhole_X5_total rfl rfl rfl (by decide +kernel) ⟨Nat.le_of_ble_eq_true rfl, Nat.le_of_ble_eq_true rfl⟩) hK hNW hAA (by decide) hO hS hl.1 (Nat.le_of_ble_eq_true rfl) dL_isWhole_394 ⟨Nat.zero_le _, Nat.zero_le _⟩ (fun H locs hO hS => ?_)
                have hO : q_OB G AA c0 hbd M hp _ := hO
                refine nr_top (y := nI (M 199)) (to_6) ?_
                refine br_igt (tgt := 432) hx hb dL_isWhole_397 (by decide) (by have := hv.2.2.1; omega) (by have := hv.2.2.1; omega) (fun h12 => ?_) (fun h12 => ?_)
                · exact absurd h12 (by omega)
                · skip
                  refine lv_aload_n hx hb dL_isWhole_400 rfl (lv_at hl 6 rfl) ?_
                  refine nr_const (v := 0) hx hb dL_isWhole_401 rfl ?_
                  refine k_bestTrade ⟨hx, hb, hml, hown, hts⟩ (cwV 1 hts gL_isWhole_X5_bestTrade rfl rfl rfl (by decide +kernel) ⟨Nat.le_of_ble_eq_true rfl, Nat.le_of_ble_eq_true rfl⟩) hK hNW hAA  hO hS hl.1 (Nat.le_of_ble_eq_true rfl) dL_isWhole_402 ⟨Nat.zero_le _, Nat.zero_le _⟩ (fun H locs hO hS => ?_)
                  have hO : q_OB G AA c0 hbd M hp _ := hO
                  refine nr_top (y := nbI (bT M).1) (be_0) ?_
                  refine lv_bipush (v := (-5)) hx hb dL_isWhole_405 (by decide +kernel) ?_
                  refine lv_icmp_ne (tgt := 414) hx hb dL_isWhole_407 (by decide) (fun h13 => ?_) (fun h13 => ?_)
                  · skip
                    refine nr_const (v := 0) hx hb dL_isWhole_414 rfl ?_
                    refine lv_iload hx hb dL_isWhole_415 (lv_at hl 1 rfl) ?_
                    refine br_ne0 (tgt := 424) hx hb dL_isWhole_417 (by decide) (by omega) (fun h14 => ?_) (fun h14 => ?_)
                    · skip
                      refine nr_const (v := 0) hx hb dL_isWhole_424 rfl ?_
                      refine br_ine (tgt := 432) hx hb dL_isWhole_425 (by decide) (by decide) (by decide) (fun h15 => ?_) (fun h15 => ?_)
                      · exact absurd (by decide) h15
                      · skip
                        refine nr_const (v := 1) hx hb dL_isWhole_428 rfl ?_
                        refine lv_goto (tgt := 433) hx hb dL_isWhole_429 (by decide) ?_
                        exact obretz (post := fun (r : Int32) (u : Unit) => r = nI 1 ∧ (True)) (ob := fun (u : Unit) => q_OB G AA c0 hbd M hp) hx hb hr hlk hS (()) (hO) ⟨rfl, trivial⟩ dL_isWhole_433
                    · exact absurd ((bT_td M).mpr h14) h13
                  · skip
                    refine nr_const (v := 1) hx hb dL_isWhole_410 rfl ?_
                    refine lv_goto (tgt := 415) hx hb dL_isWhole_411 (by decide) ?_
                    refine lv_iload hx hb dL_isWhole_415 (lv_at hl 1 rfl) ?_
                    refine br_ne0 (tgt := 424) hx hb dL_isWhole_417 (by decide) (by omega) (fun h16 => ?_) (fun h16 => ?_)
                    · exact absurd ((bT_td M).mp h13) h16
                    · skip
                      refine nr_const (v := 1) hx hb dL_isWhole_420 rfl ?_
                      refine lv_goto (tgt := 425) hx hb dL_isWhole_421 (by decide) ?_
                      refine br_ine (tgt := 432) hx hb dL_isWhole_425 (by decide) (by decide) (by decide) (fun h17 => ?_) (fun h17 => ?_)
                      · exact absurd (by decide) h17
                      · skip
                        refine nr_const (v := 1) hx hb dL_isWhole_428 rfl ?_
                        refine lv_goto (tgt := 433) hx hb dL_isWhole_429 (by decide) ?_
                        exact obretz (post := fun (r : Int32) (u : Unit) => r = nI 1 ∧ (True)) (ob := fun (u : Unit) => q_OB G AA c0 hbd M hp) hx hb hr hlk hS (()) (hO) ⟨rfl, trivial⟩ dL_isWhole_433
    · skip
      have hmc : me M (ow M 0) c 7 ≤ 14775 := me_le h0k (show c < 7 by omega) (Nat.le_refl 7)
      refine lv_iload_n hx hb dL_isWhole_76 rfl (lv_at hl 4 rfl) ?_
      refine lv_aload_n hx hb dL_isWhole_77 rfl (lv_at hl 6 rfl) ?_
      refine lv_iload hx hb dL_isWhole_78 (lv_at hl 0 rfl) ?_
      refine nr_bi (v := 9) hx hb dL_isWhole_80 (by decide +kernel) ?_
      refine k_cousin ⟨hx, hb, hml, hown, hts⟩ (cwV 2 hts gL_isWhole_X5_cousin rfl rfl rfl (by decide +kernel) ⟨Nat.le_of_ble_eq_true rfl, Nat.le_of_ble_eq_true rfl⟩) hK hNW hAA  hO hS hl.1 (Nat.le_of_ble_eq_true rfl) dL_isWhole_82 ⟨Nat.zero_le _, Nat.zero_le _⟩ (fun H locs hO hS => ?_)
      have hO : q_OB G AA c0 hbd M hp _ := hO
      refine nr_top (y := nI (es M (ow M 0) (2 ^ c) 127)) (cz_9 (by omega)) ?_
      refine nr_add hx hb dL_isWhole_85 ?_
      refine lv_istore_n (lv' := [(2, .int (nI ((sm (fun j => es M (ow M 0) (2 ^ j) 127) c) + (es M (ow M 0) (2 ^ c) 127)))), (6, .int (nI c)), (5, .int (nI (td M (ow M 0) (7 * c)))), (4, .int (nI (sm (fun j => bb (me M (ow M 0) j 7 = 0)) c))), (3, .int (nI (sm (fun j => es M (ow M 0) 127 (2 ^ j)) c))), (1, .int (nI (pc4 (ow M 0) 7))), (0, .ref c0)]) hx hb dL_isWhole_86 rfl hl (by decide) rfl (fun ls hl => ?_)
      refine lv_iload_n hx hb dL_isWhole_87 rfl (lv_at hl 4 rfl) ?_
      refine lv_aload_n hx hb dL_isWhole_88 rfl (lv_at hl 6 rfl) ?_
      refine lv_iload hx hb dL_isWhole_89 (lv_at hl 1 rfl) ?_
      refine nr_bi (v := 11) hx hb dL_isWhole_91 (by decide +kernel) ?_
      refine k_cousin ⟨hx, hb, hml, hown, hts⟩ (cwV 2 hts gL_isWhole_X5_cousin rfl rfl rfl (by decide +kernel) ⟨Nat.le_of_ble_eq_true rfl, Nat.le_of_ble_eq_true rfl⟩) hK hNW hAA  hO hS hl.1 (Nat.le_of_ble_eq_true rfl) dL_isWhole_93 ⟨Nat.zero_le _, Nat.zero_le _⟩ (fun H locs hO hS => ?_)
      have hO : q_OB G AA c0 hbd M hp _ := hO
      refine nr_top (y := nI (es M (ow M 0) 127 (2 ^ c))) (cz_11 (by omega)) ?_
      refine nr_add hx hb dL_isWhole_96 ?_
      refine lv_istore_n (lv' := [(3, .int (nI ((sm (fun j => es M (ow M 0) 127 (2 ^ j)) c) + (es M (ow M 0) 127 (2 ^ c))))), (2, .int (nI ((sm (fun j => es M (ow M 0) (2 ^ j) 127) c) + (es M (ow M 0) (2 ^ c) 127)))), (6, .int (nI c)), (5, .int (nI (td M (ow M 0) (7 * c)))), (4, .int (nI (sm (fun j => bb (me M (ow M 0) j 7 = 0)) c))), (1, .int (nI (pc4 (ow M 0) 7))), (0, .ref c0)]) hx hb dL_isWhole_97 rfl hl (by decide) rfl (fun ls hl => ?_)
      refine lv_iload hx hb dL_isWhole_98 (lv_at hl 4 rfl) ?_
      refine lv_aload_n hx hb dL_isWhole_100 rfl (lv_at hl 6 rfl) ?_
      refine lv_iload hx hb dL_isWhole_101 (lv_at hl 2 rfl) ?_
      refine nr_bi (v := 10) hx hb dL_isWhole_103 (by decide +kernel) ?_
      refine k_cousin ⟨hx, hb, hml, hown, hts⟩ (cwV 2 hts gL_isWhole_X5_cousin rfl rfl rfl (by decide +kernel) ⟨Nat.le_of_ble_eq_true rfl, Nat.le_of_ble_eq_true rfl⟩) hK hNW hAA  hO hS hl.1 (Nat.le_of_ble_eq_true rfl) dL_isWhole_105 ⟨Nat.zero_le _, Nat.zero_le _⟩ (fun H locs hO hS => ?_)
      have hO : q_OB G AA c0 hbd M hp _ := hO
      refine nr_top (y := nI (me M (ow M 0) c 7)) (cz_10 (by omega)) ?_
      refine join_v (T := Nat) (J := 116) (nL := 13) (fun v => [(3, .int (nI ((sm (fun j => es M (ow M 0) 127 (2 ^ j)) c) + (es M (ow M 0) 127 (2 ^ c))))), (2, .int (nI ((sm (fun j => es M (ow M 0) (2 ^ j) 127) c) + (es M (ow M 0) (2 ^ c) 127)))), (6, .int (nI c)), (5, .int (nI (td M (ow M 0) (7 * c)))), (4, .int (nI (sm (fun j => bb (me M (ow M 0) j 7 = 0)) c))), (1, .int (nI (pc4 (ow M 0) 7))), (0, .ref c0)]) (fun v => [.int (nI v), .int (nI (sm (fun j => bb (me M (ow M 0) j 7 = 0)) c))]) (fun v => v = bb ((me M (ow M 0) c 7) = 0)) ?_ (fun jj18 => ?_)
      · intro v ls hl hv19
        subst hv19
        refine nr_add hx hb dL_isWhole_116 ?_
        refine lv_istore (lv' := [(4, .int (nI ((sm (fun j => bb (me M (ow M 0) j 7 = 0)) c) + (bb ((me M (ow M 0) c 7) = 0))))), (3, .int (nI ((sm (fun j => es M (ow M 0) 127 (2 ^ j)) c) + (es M (ow M 0) 127 (2 ^ c))))), (2, .int (nI ((sm (fun j => es M (ow M 0) (2 ^ j) 127) c) + (es M (ow M 0) (2 ^ c) 127)))), (6, .int (nI c)), (5, .int (nI (td M (ow M 0) (7 * c)))), (1, .int (nI (pc4 (ow M 0) 7))), (0, .ref c0)]) hx hb dL_isWhole_117 hl (by decide) rfl (fun ls hl => ?_)
        refine lv_iload hx hb dL_isWhole_119 (lv_at hl 3 rfl) ?_
        refine nr_const (v := 1) hx hb dL_isWhole_121 rfl ?_
        refine nr_add hx hb dL_isWhole_122 ?_
        rw [td_n M (ow M 0) (show c < 7 by omega)] at hl
        have hl : lv_has ls 13 [(4, .int (nI ((sm (fun j => bb (me M (ow M 0) j 7 = 0)) c) + (bb ((me M (ow M 0) c 7) = 0))))), (3, .int (nI ((sm (fun j => es M (ow M 0) 127 (2 ^ j)) c) + (es M (ow M 0) 127 (2 ^ c))))), (2, .int (nI ((sm (fun j => es M (ow M 0) (2 ^ j) 127) c) + (es M (ow M 0) (2 ^ c) 127)))), (6, .int (nI c)), (5, .int (nI (td M (ow M 0) (7 * c + (c + 1 + 0))))), (1, .int (nI (pc4 (ow M 0) 7))), (0, .ref c0)] := hl
        refine lv_istore (lv' := [(7, .int (nI (c + 1))), (4, .int (nI ((sm (fun j => bb (me M (ow M 0) j 7 = 0)) c) + (bb ((me M (ow M 0) c 7) = 0))))), (3, .int (nI ((sm (fun j => es M (ow M 0) 127 (2 ^ j)) c) + (es M (ow M 0) 127 (2 ^ c))))), (2, .int (nI ((sm (fun j => es M (ow M 0) (2 ^ j) 127) c) + (es M (ow M 0) (2 ^ c) 127)))), (6, .int (nI c)), (5, .int (nI (td M (ow M 0) (7 * c + (c + 1 + 0))))), (1, .int (nI (pc4 (ow M 0) 7))), (0, .ref c0)]) hx hb dL_isWhole_123 hl (by decide) rfl (fun ls hl => ?_)
        refine loop_o (T := Nat) (nL := 13) (fun d => d ≤ (6 - c)) (fun d => (6 - c) - d) (fun d => [(7, .int (nI (c + 1 + d))), (4, .int (nI ((sm (fun j => bb (me M (ow M 0) j 7 = 0)) c) + (bb ((me M (ow M 0) c 7) = 0))))), (3, .int (nI ((sm (fun j => es M (ow M 0) 127 (2 ^ j)) c) + (es M (ow M 0) 127 (2 ^ c))))), (2, .int (nI ((sm (fun j => es M (ow M 0) (2 ^ j) 127) c) + (es M (ow M 0) (2 ^ c) 127)))), (6, .int (nI c)), (5, .int (nI (td M (ow M 0) (7 * c + (c + 1 + d))))), (1, .int (nI (pc4 (ow M 0) 7))), (0, .ref c0)]) (fun d => q_OB G AA c0 hbd M hp) ?_ 0 (lv_sub hl [0, 1, 2, 3, 4, 5, 6, 7] rfl) hO hS (by omega)
        intro d ls H locs hl hO hS hi21 ih20
        have hi21_0 := hi21
        have hi21_0 : d ≤ (6 - c) := hi21_0
        have hO : q_OB G AA c0 hbd M hp _ := hO
        have hl : lv_has ls 13 [(7, .int (nI (c + 1 + d))), (4, .int (nI ((sm (fun j => bb (me M (ow M 0) j 7 = 0)) c) + (bb ((me M (ow M 0) c 7) = 0))))), (3, .int (nI ((sm (fun j => es M (ow M 0) 127 (2 ^ j)) c) + (es M (ow M 0) 127 (2 ^ c))))), (2, .int (nI ((sm (fun j => es M (ow M 0) (2 ^ j) 127) c) + (es M (ow M 0) (2 ^ c) 127)))), (6, .int (nI c)), (5, .int (nI (td M (ow M 0) (7 * c + (c + 1 + d))))), (1, .int (nI (pc4 (ow M 0) 7))), (0, .ref c0)] := hl
        refine lv_iload hx hb dL_isWhole_125 (lv_at hl 0 rfl) ?_
        refine nr_bi (v := 7) hx hb dL_isWhole_127 (by decide +kernel) ?_
        refine br_ige (tgt := 336) hx hb dL_isWhole_129 (by decide) (by omega) (by decide) (fun h22 => ?_) (fun h22 => ?_)
        · skip
          have e2 : d = 6 - c := (by omega)
          subst e2
          have hl : lv_has ls 13 [(7, .int (nI (c + 1 + (6 - c)))), (4, .int (nI ((sm (fun j => bb (me M (ow M 0) j 7 = 0)) c) + (bb ((me M (ow M 0) c 7) = 0))))), (3, .int (nI ((sm (fun j => es M (ow M 0) 127 (2 ^ j)) c) + (es M (ow M 0) 127 (2 ^ c))))), (2, .int (nI ((sm (fun j => es M (ow M 0) (2 ^ j) 127) c) + (es M (ow M 0) (2 ^ c) 127)))), (6, .int (nI c)), (5, .int (nI (td M (ow M 0) (7 * c + (c + 1 + (6 - c)))))), (1, .int (nI (pc4 (ow M 0) 7))), (0, .ref c0)] := hl
          rw [show 7 * c + (c + 1 + (6 - c)) = 7 * (c + 1) by omega] at hl
          have hl : lv_has ls 13 [(7, .int (nI (c + 1 + (6 - c)))), (4, .int (nI ((sm (fun j => bb (me M (ow M 0) j 7 = 0)) c) + (bb ((me M (ow M 0) c 7) = 0))))), (3, .int (nI ((sm (fun j => es M (ow M 0) 127 (2 ^ j)) c) + (es M (ow M 0) 127 (2 ^ c))))), (2, .int (nI ((sm (fun j => es M (ow M 0) (2 ^ j) 127) c) + (es M (ow M 0) (2 ^ c) 127)))), (6, .int (nI c)), (5, .int (nI (td M (ow M 0) (7 * (c + 1))))), (1, .int (nI (pc4 (ow M 0) 7))), (0, .ref c0)] := hl
          refine nr_inc (d := 1) (v := c + 1) (lv' := [(6, .int (nI (c + 1))), (7, .int (nI (c + 1 + (6 - c)))), (4, .int (nI ((sm (fun j => bb (me M (ow M 0) j 7 = 0)) c) + (bb ((me M (ow M 0) c 7) = 0))))), (3, .int (nI ((sm (fun j => es M (ow M 0) 127 (2 ^ j)) c) + (es M (ow M 0) 127 (2 ^ c))))), (2, .int (nI ((sm (fun j => es M (ow M 0) (2 ^ j) 127) c) + (es M (ow M 0) (2 ^ c) 127)))), (5, .int (nI (td M (ow M 0) (7 * (c + 1))))), (1, .int (nI (pc4 (ow M 0) 7))), (0, .ref c0)]) hx hb dL_isWhole_336 hl (k := 4) rfl rfl (by decide) rfl (fun ls hl => ?_)
          refine lv_goto (tgt := 69) hx hb dL_isWhole_339 (by decide) ?_
          exact ih4 (c + 1) ls H locs (lv_sub hl [0, 5, 2, 3, 4, 6, 7] rfl) hO hS (by omega) (by omega)
        · skip
          have hd7 : c + 1 + d < 7 := (by omega)
          have hr1 := rs_lt M (ow M 0) c (c + 1 + d)
          have hr2 := rs_lt M (ow M 0) (c + 1 + d) c
          have hgg1 := gr_le h0k (show c < 7 by omega) hd7
          have hgg2 := gr_le h0k hd7 (show c < 7 by omega)
          have hh1 : sh M (ow M 0) c (c + 1 + d) ≤ 7776 := sh_le h0k (by omega)
          have hh2 : sh M (ow M 0) c c ≤ 7776 := sh_le h0k (by omega)
          have hh3 : sh M (ow M 0) (c + 1 + d) c ≤ 7776 := sh_le h0k hd7
          have hh4 : sh M (ow M 0) (c + 1 + d) (c + 1 + d) ≤ 7776 := sh_le h0k hd7
          refine lv_aload_n hx hb dL_isWhole_132 rfl (lv_at hl 7 rfl) ?_
          refine lv_iload hx hb dL_isWhole_133 (lv_at hl 4 rfl) ?_
          refine lv_iload hx hb dL_isWhole_135 (lv_at hl 0 rfl) ?_
          refine nr_const (v := 4) hx hb dL_isWhole_137 rfl ?_
          refine k_pair ⟨hx, hb, hml, hown, hts⟩ (cwV 3 hts gL_isWhole_X5_pair rfl rfl rfl (by decide +kernel) ⟨Nat.le_of_ble_eq_true rfl, Nat.le_of_ble_eq_true rfl⟩) hK hNW hAA  hO hS hl.1 (Nat.le_of_ble_eq_true rfl) dL_isWhole_138 ⟨Nat.zero_le _, Nat.zero_le _⟩ (fun H locs hO hS => ?_)
          have hO : q_OB G AA c0 hbd M hp _ := hO
          refine nr_top (y := nI (rs M (ow M 0) c (c + 1 + d))) (pa_4 (by omega) (by omega) (by omega)) ?_
          refine lv_istore (lv' := [(8, .int (nI (rs M (ow M 0) c (c + 1 + d)))), (7, .int (nI (c + 1 + d))), (4, .int (nI ((sm (fun j => bb (me M (ow M 0) j 7 = 0)) c) + (bb ((me M (ow M 0) c 7) = 0))))), (3, .int (nI ((sm (fun j => es M (ow M 0) 127 (2 ^ j)) c) + (es M (ow M 0) 127 (2 ^ c))))), (2, .int (nI ((sm (fun j => es M (ow M 0) (2 ^ j) 127) c) + (es M (ow M 0) (2 ^ c) 127)))), (6, .int (nI c)), (5, .int (nI (td M (ow M 0) (7 * c + (c + 1 + d))))), (1, .int (nI (pc4 (ow M 0) 7))), (0, .ref c0)]) hx hb dL_isWhole_141 hl (by decide) rfl (fun ls hl => ?_)
          refine lv_aload_n hx hb dL_isWhole_143 rfl (lv_at hl 8 rfl) ?_
          refine lv_iload hx hb dL_isWhole_144 (lv_at hl 1 rfl) ?_
          refine lv_iload hx hb dL_isWhole_146 (lv_at hl 5 rfl) ?_
          refine nr_const (v := 4) hx hb dL_isWhole_148 rfl ?_
          refine k_pair ⟨hx, hb, hml, hown, hts⟩ (cwV 3 hts gL_isWhole_X5_pair rfl rfl rfl (by decide +kernel) ⟨Nat.le_of_ble_eq_true rfl, Nat.le_of_ble_eq_true rfl⟩) hK hNW hAA  hO hS hl.1 (Nat.le_of_ble_eq_true rfl) dL_isWhole_149 ⟨Nat.zero_le _, Nat.zero_le _⟩ (fun H locs hO hS => ?_)
          have hO : q_OB G AA c0 hbd M hp _ := hO
          refine nr_top (y := nI (rs M (ow M 0) (c + 1 + d) c)) (pa_4 (by omega) (by omega) (by omega)) ?_
          refine lv_istore (lv' := [(9, .int (nI (rs M (ow M 0) (c + 1 + d) c))), (8, .int (nI (rs M (ow M 0) c (c + 1 + d)))), (7, .int (nI (c + 1 + d))), (4, .int (nI ((sm (fun j => bb (me M (ow M 0) j 7 = 0)) c) + (bb ((me M (ow M 0) c 7) = 0))))), (3, .int (nI ((sm (fun j => es M (ow M 0) 127 (2 ^ j)) c) + (es M (ow M 0) 127 (2 ^ c))))), (2, .int (nI ((sm (fun j => es M (ow M 0) (2 ^ j) 127) c) + (es M (ow M 0) (2 ^ c) 127)))), (6, .int (nI c)), (5, .int (nI (td M (ow M 0) (7 * c + (c + 1 + d))))), (1, .int (nI (pc4 (ow M 0) 7))), (0, .ref c0)]) hx hb dL_isWhole_152 hl (by decide) rfl (fun ls hl => ?_)
          refine lv_iload hx hb dL_isWhole_154 (lv_at hl 7 rfl) ?_
          refine lv_iload hx hb dL_isWhole_156 (lv_at hl 1 rfl) ?_
          refine join_v (T := Nat) (J := 166) (nL := 13) (fun v => [(9, .int (nI (rs M (ow M 0) (c + 1 + d) c))), (8, .int (nI (rs M (ow M 0) c (c + 1 + d)))), (7, .int (nI (c + 1 + d))), (4, .int (nI ((sm (fun j => bb (me M (ow M 0) j 7 = 0)) c) + (bb ((me M (ow M 0) c 7) = 0))))), (3, .int (nI ((sm (fun j => es M (ow M 0) 127 (2 ^ j)) c) + (es M (ow M 0) 127 (2 ^ c))))), (2, .int (nI ((sm (fun j => es M (ow M 0) (2 ^ j) 127) c) + (es M (ow M 0) (2 ^ c) 127)))), (6, .int (nI c)), (5, .int (nI (td M (ow M 0) (7 * c + (c + 1 + d))))), (1, .int (nI (pc4 (ow M 0) 7))), (0, .ref c0)]) (fun v => [.int (nI v), .int (nI (td M (ow M 0) (7 * c + (c + 1 + d))))]) (fun v => v = bb ((rs M (ow M 0) c (c + 1 + d)) = 0)) ?_ (fun jj23 => ?_)
          · intro v ls hl hv24
            subst hv24
            refine nr_add hx hb dL_isWhole_166 ?_
            refine lv_istore (lv' := [(5, .int (nI ((td M (ow M 0) (7 * c + (c + 1 + d))) + (bb ((rs M (ow M 0) c (c + 1 + d)) = 0))))), (9, .int (nI (rs M (ow M 0) (c + 1 + d) c))), (8, .int (nI (rs M (ow M 0) c (c + 1 + d)))), (7, .int (nI (c + 1 + d))), (4, .int (nI ((sm (fun j => bb (me M (ow M 0) j 7 = 0)) c) + (bb ((me M (ow M 0) c 7) = 0))))), (3, .int (nI ((sm (fun j => es M (ow M 0) 127 (2 ^ j)) c) + (es M (ow M 0) 127 (2 ^ c))))), (2, .int (nI ((sm (fun j => es M (ow M 0) (2 ^ j) 127) c) + (es M (ow M 0) (2 ^ c) 127)))), (6, .int (nI c)), (1, .int (nI (pc4 (ow M 0) 7))), (0, .ref c0)]) hx hb dL_isWhole_167 hl (by decide) rfl (fun ls hl => ?_)
            refine lv_aload_n hx hb dL_isWhole_169 rfl (lv_at hl 9 rfl) ?_
            refine lv_iload hx hb dL_isWhole_170 (lv_at hl 7 rfl) ?_
            refine lv_iload hx hb dL_isWhole_172 (lv_at hl 3 rfl) ?_
            refine nr_const (v := 0) hx hb dL_isWhole_174 rfl ?_
            refine k_pair ⟨hx, hb, hml, hown, hts⟩ (cwV 3 hts gL_isWhole_X5_pair rfl rfl rfl (by decide +kernel) ⟨Nat.le_of_ble_eq_true rfl, Nat.le_of_ble_eq_true rfl⟩) hK hNW hAA  hO hS hl.1 (Nat.le_of_ble_eq_true rfl) dL_isWhole_175 ⟨Nat.zero_le _, Nat.zero_le _⟩ (fun H locs hO hS => ?_)
            have hO : q_OB G AA c0 hbd M hp _ := hO
            refine nr_top (y := nI (gr M c (c + 1 + d))) (pa_0 (by omega) (by omega) (by omega)) ?_
            refine lv_aload_n hx hb dL_isWhole_178 rfl (lv_at hl 9 rfl) ?_
            refine nr_const (v := 1) hx hb dL_isWhole_179 rfl ?_
            refine k_total ⟨hx, hb, hml, hown, hts⟩ (cwV 1 hts gL_isWhole_X5_total rfl rfl rfl (by decide +kernel) ⟨Nat.le_of_ble_eq_true rfl, Nat.le_of_ble_eq_true rfl⟩) hK hNW hAA (by decide) hO hS hl.1 (Nat.le_of_ble_eq_true rfl) dL_isWhole_180 ⟨Nat.zero_le _, Nat.zero_le _⟩ (fun H locs hO hS => ?_)
            have hO : q_OB G AA c0 hbd M hp _ := hO
            refine nr_top (y := nI (M 198)) (to_1) ?_
            refine br_ige (tgt := 203) hx hb dL_isWhole_183 (by decide) (by omega) (by omega) (fun h25 => ?_) (fun h25 => ?_)
            · skip
              refine nr_const (v := 1) hx hb dL_isWhole_203 rfl ?_
              refine lv_goto (tgt := 208) hx hb dL_isWhole_204 (by decide) ?_
              refine lv_istore (lv' := [(10, .int (nI 1)), (5, .int (nI ((td M (ow M 0) (7 * c + (c + 1 + d))) + (bb ((rs M (ow M 0) c (c + 1 + d)) = 0))))), (9, .int (nI (rs M (ow M 0) (c + 1 + d) c))), (8, .int (nI (rs M (ow M 0) c (c + 1 + d)))), (7, .int (nI (c + 1 + d))), (4, .int (nI ((sm (fun j => bb (me M (ow M 0) j 7 = 0)) c) + (bb ((me M (ow M 0) c 7) = 0))))), (3, .int (nI ((sm (fun j => es M (ow M 0) 127 (2 ^ j)) c) + (es M (ow M 0) 127 (2 ^ c))))), (2, .int (nI ((sm (fun j => es M (ow M 0) (2 ^ j) 127) c) + (es M (ow M 0) (2 ^ c) 127)))), (6, .int (nI c)), (1, .int (nI (pc4 (ow M 0) 7))), (0, .ref c0)]) hx hb dL_isWhole_208 hl (by decide) rfl (fun ls hl => ?_)
              refine lv_aload_n hx hb dL_isWhole_210 rfl (lv_at hl 10 rfl) ?_
              refine lv_iload hx hb dL_isWhole_211 (lv_at hl 8 rfl) ?_
              refine lv_iload hx hb dL_isWhole_213 (lv_at hl 4 rfl) ?_
              refine nr_const (v := 1) hx hb dL_isWhole_215 rfl ?_
              refine k_pair ⟨hx, hb, hml, hown, hts⟩ (cwV 3 hts gL_isWhole_X5_pair rfl rfl rfl (by decide +kernel) ⟨Nat.le_of_ble_eq_true rfl, Nat.le_of_ble_eq_true rfl⟩) hK hNW hAA  hO hS hl.1 (Nat.le_of_ble_eq_true rfl) dL_isWhole_216 ⟨Nat.zero_le _, Nat.zero_le _⟩ (fun H locs hO hS => ?_)
              have hO : q_OB G AA c0 hbd M hp _ := hO
              refine nr_top (y := nI (sh M (ow M 0) c (c + 1 + d))) (pa_1 (by omega) (by omega) (by omega)) ?_
              refine lv_aload_n hx hb dL_isWhole_219 rfl (lv_at hl 10 rfl) ?_
              refine lv_iload hx hb dL_isWhole_220 (lv_at hl 8 rfl) ?_
              refine nr_const (v := 5) hx hb dL_isWhole_222 rfl ?_
              refine k_cousin ⟨hx, hb, hml, hown, hts⟩ (cwV 2 hts gL_isWhole_X5_cousin rfl rfl rfl (by decide +kernel) ⟨Nat.le_of_ble_eq_true rfl, Nat.le_of_ble_eq_true rfl⟩) hK hNW hAA  hO hS hl.1 (Nat.le_of_ble_eq_true rfl) dL_isWhole_223 ⟨Nat.zero_le _, Nat.zero_le _⟩ (fun H locs hO hS => ?_)
              have hO : q_OB G AA c0 hbd M hp _ := hO
              refine nr_top (y := nI (sh M (ow M 0) c c)) (cz_5 (by omega)) ?_
              refine join_v (T := Nat) (J := 234) (nL := 13) (fun v => [(10, .int (nI 1)), (5, .int (nI ((td M (ow M 0) (7 * c + (c + 1 + d))) + (bb ((rs M (ow M 0) c (c + 1 + d)) = 0))))), (9, .int (nI (rs M (ow M 0) (c + 1 + d) c))), (8, .int (nI (rs M (ow M 0) c (c + 1 + d)))), (7, .int (nI (c + 1 + d))), (4, .int (nI ((sm (fun j => bb (me M (ow M 0) j 7 = 0)) c) + (bb ((me M (ow M 0) c 7) = 0))))), (3, .int (nI ((sm (fun j => es M (ow M 0) 127 (2 ^ j)) c) + (es M (ow M 0) 127 (2 ^ c))))), (2, .int (nI ((sm (fun j => es M (ow M 0) (2 ^ j) 127) c) + (es M (ow M 0) (2 ^ c) 127)))), (6, .int (nI c)), (1, .int (nI (pc4 (ow M 0) 7))), (0, .ref c0)]) (fun v => [.int (nI v)]) (fun v => v = bb (¬ ((sh M (ow M 0) c (c + 1 + d)) ≤ (sh M (ow M 0) c c)))) ?_ (fun jj26 => ?_)
              · intro v ls hl hv27
                subst hv27
                refine lv_istore (lv' := [(11, .int (nI (bb (¬ ((sh M (ow M 0) c (c + 1 + d)) ≤ (sh M (ow M 0) c c)))))), (10, .int (nI 1)), (5, .int (nI ((td M (ow M 0) (7 * c + (c + 1 + d))) + (bb ((rs M (ow M 0) c (c + 1 + d)) = 0))))), (9, .int (nI (rs M (ow M 0) (c + 1 + d) c))), (8, .int (nI (rs M (ow M 0) c (c + 1 + d)))), (7, .int (nI (c + 1 + d))), (4, .int (nI ((sm (fun j => bb (me M (ow M 0) j 7 = 0)) c) + (bb ((me M (ow M 0) c 7) = 0))))), (3, .int (nI ((sm (fun j => es M (ow M 0) 127 (2 ^ j)) c) + (es M (ow M 0) 127 (2 ^ c))))), (2, .int (nI ((sm (fun j => es M (ow M 0) (2 ^ j) 127) c) + (es M (ow M 0) (2 ^ c) 127)))), (6, .int (nI c)), (1, .int (nI (pc4 (ow M 0) 7))), (0, .ref c0)]) hx hb dL_isWhole_234 hl (by decide) rfl (fun ls hl => ?_)
                refine lv_aload_n hx hb dL_isWhole_236 rfl (lv_at hl 11 rfl) ?_
                refine lv_iload hx hb dL_isWhole_237 (lv_at hl 5 rfl) ?_
                refine lv_iload hx hb dL_isWhole_239 (lv_at hl 9 rfl) ?_
                refine nr_const (v := 1) hx hb dL_isWhole_241 rfl ?_
                refine k_pair ⟨hx, hb, hml, hown, hts⟩ (cwV 3 hts gL_isWhole_X5_pair rfl rfl rfl (by decide +kernel) ⟨Nat.le_of_ble_eq_true rfl, Nat.le_of_ble_eq_true rfl⟩) hK hNW hAA  hO hS hl.1 (Nat.le_of_ble_eq_true rfl) dL_isWhole_242 ⟨Nat.zero_le _, Nat.zero_le _⟩ (fun H locs hO hS => ?_)
                have hO : q_OB G AA c0 hbd M hp _ := hO
                refine nr_top (y := nI (sh M (ow M 0) (c + 1 + d) c)) (pa_1 (by omega) (by omega) (by omega)) ?_
                refine lv_aload_n hx hb dL_isWhole_245 rfl (lv_at hl 11 rfl) ?_
                refine lv_iload hx hb dL_isWhole_246 (lv_at hl 5 rfl) ?_
                refine nr_const (v := 5) hx hb dL_isWhole_248 rfl ?_
                refine k_cousin ⟨hx, hb, hml, hown, hts⟩ (cwV 2 hts gL_isWhole_X5_cousin rfl rfl rfl (by decide +kernel) ⟨Nat.le_of_ble_eq_true rfl, Nat.le_of_ble_eq_true rfl⟩) hK hNW hAA  hO hS hl.1 (Nat.le_of_ble_eq_true rfl) dL_isWhole_249 ⟨Nat.zero_le _, Nat.zero_le _⟩ (fun H locs hO hS => ?_)
                have hO : q_OB G AA c0 hbd M hp _ := hO
                refine nr_top (y := nI (sh M (ow M 0) (c + 1 + d) (c + 1 + d))) (cz_5 (by omega)) ?_
                refine join_v (T := Nat) (J := 260) (nL := 13) (fun v => [(11, .int (nI (bb (¬ ((sh M (ow M 0) c (c + 1 + d)) ≤ (sh M (ow M 0) c c)))))), (10, .int (nI 1)), (5, .int (nI ((td M (ow M 0) (7 * c + (c + 1 + d))) + (bb ((rs M (ow M 0) c (c + 1 + d)) = 0))))), (9, .int (nI (rs M (ow M 0) (c + 1 + d) c))), (8, .int (nI (rs M (ow M 0) c (c + 1 + d)))), (7, .int (nI (c + 1 + d))), (4, .int (nI ((sm (fun j => bb (me M (ow M 0) j 7 = 0)) c) + (bb ((me M (ow M 0) c 7) = 0))))), (3, .int (nI ((sm (fun j => es M (ow M 0) 127 (2 ^ j)) c) + (es M (ow M 0) 127 (2 ^ c))))), (2, .int (nI ((sm (fun j => es M (ow M 0) (2 ^ j) 127) c) + (es M (ow M 0) (2 ^ c) 127)))), (6, .int (nI c)), (1, .int (nI (pc4 (ow M 0) 7))), (0, .ref c0)]) (fun v => [.int (nI v)]) (fun v => v = bb (¬ ((sh M (ow M 0) (c + 1 + d) c) ≤ (sh M (ow M 0) (c + 1 + d) (c + 1 + d))))) ?_ (fun jj28 => ?_)
                · intro v ls hl hv29
                  subst hv29
                  refine lv_istore (lv' := [(12, .int (nI (bb (¬ ((sh M (ow M 0) (c + 1 + d) c) ≤ (sh M (ow M 0) (c + 1 + d) (c + 1 + d))))))), (11, .int (nI (bb (¬ ((sh M (ow M 0) c (c + 1 + d)) ≤ (sh M (ow M 0) c c)))))), (10, .int (nI 1)), (5, .int (nI ((td M (ow M 0) (7 * c + (c + 1 + d))) + (bb ((rs M (ow M 0) c (c + 1 + d)) = 0))))), (9, .int (nI (rs M (ow M 0) (c + 1 + d) c))), (8, .int (nI (rs M (ow M 0) c (c + 1 + d)))), (7, .int (nI (c + 1 + d))), (4, .int (nI ((sm (fun j => bb (me M (ow M 0) j 7 = 0)) c) + (bb ((me M (ow M 0) c 7) = 0))))), (3, .int (nI ((sm (fun j => es M (ow M 0) 127 (2 ^ j)) c) + (es M (ow M 0) 127 (2 ^ c))))), (2, .int (nI ((sm (fun j => es M (ow M 0) (2 ^ j) 127) c) + (es M (ow M 0) (2 ^ c) 127)))), (6, .int (nI c)), (1, .int (nI (pc4 (ow M 0) 7))), (0, .ref c0)]) hx hb dL_isWhole_260 hl (by decide) rfl (fun ls hl => ?_)
                  refine lv_iload hx hb dL_isWhole_262 (lv_at hl 5 rfl) ?_
                  refine lv_iload hx hb dL_isWhole_264 (lv_at hl 2 rfl) ?_
                  refine br_eq0 (tgt := 273) hx hb dL_isWhole_266 (by decide) (by decide) (fun h30 => ?_) (fun h30 => ?_)
                  · exact absurd h30 (by decide)
                  · skip
                    refine nr_const (v := 1) hx hb dL_isWhole_269 rfl ?_
                    refine lv_goto (tgt := 292) hx hb dL_isWhole_270 (by decide) ?_
                    refine br_ine (tgt := 328) hx hb dL_isWhole_292 (by decide) (by omega) (by decide) (fun h31 => ?_) (fun h31 => ?_)
                    · exact absurd (by unfold rs; (repeat' split) <;> omega) h31
                    · skip
                      refine lv_iload hx hb dL_isWhole_295 (lv_at hl 4 rfl) ?_
                      refine lv_iload hx hb dL_isWhole_297 (lv_at hl 2 rfl) ?_
                      refine br_eq0 (tgt := 306) hx hb dL_isWhole_299 (by decide) (by decide) (fun h32 => ?_) (fun h32 => ?_)
                      · exact absurd h32 (by decide)
                      · skip
                        refine nr_const (v := 1) hx hb dL_isWhole_302 rfl ?_
                        refine lv_goto (tgt := 325) hx hb dL_isWhole_303 (by decide) ?_
                        refine br_ieq (tgt := 330) hx hb dL_isWhole_325 (by decide) (by omega) (by decide) (fun h33 => ?_) (fun h33 => ?_)
                        · skip
                          refine nr_inc (d := 1) (v := (c + 1 + d) + 1) (lv' := [(7, .int (nI ((c + 1 + d) + 1))), (12, .int (nI (bb (¬ ((sh M (ow M 0) (c + 1 + d) c) ≤ (sh M (ow M 0) (c + 1 + d) (c + 1 + d))))))), (11, .int (nI (bb (¬ ((sh M (ow M 0) c (c + 1 + d)) ≤ (sh M (ow M 0) c c)))))), (10, .int (nI 1)), (5, .int (nI ((td M (ow M 0) (7 * c + (c + 1 + d))) + (bb ((rs M (ow M 0) c (c + 1 + d)) = 0))))), (9, .int (nI (rs M (ow M 0) (c + 1 + d) c))), (8, .int (nI (rs M (ow M 0) c (c + 1 + d)))), (4, .int (nI ((sm (fun j => bb (me M (ow M 0) j 7 = 0)) c) + (bb ((me M (ow M 0) c 7) = 0))))), (3, .int (nI ((sm (fun j => es M (ow M 0) 127 (2 ^ j)) c) + (es M (ow M 0) 127 (2 ^ c))))), (2, .int (nI ((sm (fun j => es M (ow M 0) (2 ^ j) 127) c) + (es M (ow M 0) (2 ^ c) 127)))), (6, .int (nI c)), (1, .int (nI (pc4 (ow M 0) 7))), (0, .ref c0)]) hx hb dL_isWhole_330 hl (k := 6) rfl rfl (by decide) rfl (fun ls hl => ?_)
                          refine lv_goto (tgt := 125) hx hb dL_isWhole_333 (by decide) ?_
                          have efx : td M (ow M 0) (7 * c + (c + 1 + (d + 1))) = td M (ow M 0) (7 * c + (c + 1 + d)) + bb (rs M (ow M 0) c (c + 1 + d) = 0) := td_s M (ow M 0) (a := c) (b := c + 1 + d) (by omega) (by omega)
                          exact ih20 (d + 1) ls H locs (by show lv_has ls 13 [(7, .int (nI (c + 1 + (d + 1)))), (4, .int (nI ((sm (fun j => bb (me M (ow M 0) j 7 = 0)) c) + (bb ((me M (ow M 0) c 7) = 0))))), (3, .int (nI ((sm (fun j => es M (ow M 0) 127 (2 ^ j)) c) + (es M (ow M 0) 127 (2 ^ c))))), (2, .int (nI ((sm (fun j => es M (ow M 0) (2 ^ j) 127) c) + (es M (ow M 0) (2 ^ c) 127)))), (6, .int (nI c)), (5, .int (nI (td M (ow M 0) (7 * c + (c + 1 + (d + 1)))))), (1, .int (nI (pc4 (ow M 0) 7))), (0, .ref c0)]; rw [efx]; exact lv_sub hl [0, 7, 8, 9, 10, 4, 11, 12] rfl) hO hS (by omega) (by omega)
                        · exact absurd (by unfold rs; (repeat' split) <;> omega) h33
                · skip
                  refine br_ile (tgt := 259) hx hb dL_isWhole_252 (by decide) (by omega) (by omega) (fun h34 => ?_) (fun h34 => ?_)
                  · skip
                    refine nr_const (v := 0) hx hb dL_isWhole_259 rfl ?_
                    exact jj28 0 ls (lv_sub hl [0, 1, 2, 3, 4, 5, 6, 7, 8, 9, 10, 11] rfl) (bb_f (fun q => q h34)).symm
                  · skip
                    refine nr_const (v := 1) hx hb dL_isWhole_255 rfl ?_
                    refine lv_goto (tgt := 260) hx hb dL_isWhole_256 (by decide) ?_
                    exact jj28 1 ls (lv_sub hl [0, 1, 2, 3, 4, 5, 6, 7, 8, 9, 10, 11] rfl) (bb_t h34).symm
              · skip
                refine br_ile (tgt := 233) hx hb dL_isWhole_226 (by decide) (by omega) (by omega) (fun h35 => ?_) (fun h35 => ?_)
                · skip
                  refine nr_const (v := 0) hx hb dL_isWhole_233 rfl ?_
                  exact jj26 0 ls (lv_sub hl [0, 1, 2, 3, 4, 5, 6, 7, 8, 9, 10] rfl) (bb_f (fun q => q h35)).symm
                · skip
                  refine nr_const (v := 1) hx hb dL_isWhole_229 rfl ?_
                  refine lv_goto (tgt := 234) hx hb dL_isWhole_230 (by decide) ?_
                  exact jj26 1 ls (lv_sub hl [0, 1, 2, 3, 4, 5, 6, 7, 8, 9, 10] rfl) (bb_t h35).symm
            · skip
              refine lv_aload_n hx hb dL_isWhole_186 rfl (lv_at hl 9 rfl) ?_
              refine lv_iload hx hb dL_isWhole_187 (lv_at hl 3 rfl) ?_
              refine lv_iload hx hb dL_isWhole_189 (lv_at hl 7 rfl) ?_
              refine nr_const (v := 0) hx hb dL_isWhole_191 rfl ?_
              refine k_pair ⟨hx, hb, hml, hown, hts⟩ (cwV 3 hts gL_isWhole_X5_pair rfl rfl rfl (by decide +kernel) ⟨Nat.le_of_ble_eq_true rfl, Nat.le_of_ble_eq_true rfl⟩) hK hNW hAA  hO hS hl.1 (Nat.le_of_ble_eq_true rfl) dL_isWhole_192 ⟨Nat.zero_le _, Nat.zero_le _⟩ (fun H locs hO hS => ?_)
              have hO : q_OB G AA c0 hbd M hp _ := hO
              refine nr_top (y := nI (gr M (c + 1 + d) c)) (pa_0 (by omega) (by omega) (by omega)) ?_
              refine lv_aload_n hx hb dL_isWhole_195 rfl (lv_at hl 9 rfl) ?_
              refine nr_const (v := 1) hx hb dL_isWhole_196 rfl ?_
              refine k_total ⟨hx, hb, hml, hown, hts⟩ (cwV 1 hts gL_isWhole_X5_total rfl rfl rfl (by decide +kernel) ⟨Nat.le_of_ble_eq_true rfl, Nat.le_of_ble_eq_true rfl⟩) hK hNW hAA (by decide) hO hS hl.1 (Nat.le_of_ble_eq_true rfl) dL_isWhole_197 ⟨Nat.zero_le _, Nat.zero_le _⟩ (fun H locs hO hS => ?_)
              have hO : q_OB G AA c0 hbd M hp _ := hO
              refine nr_top (y := nI (M 198)) (to_1) ?_
              refine br_ilt (tgt := 207) hx hb dL_isWhole_200 (by decide) (by omega) (by omega) (fun h36 => ?_) (fun h36 => ?_)
              · skip
                refine nr_const (v := 0) hx hb dL_isWhole_207 rfl ?_
                refine lv_istore (lv' := [(10, .int (nI 0)), (5, .int (nI ((td M (ow M 0) (7 * c + (c + 1 + d))) + (bb ((rs M (ow M 0) c (c + 1 + d)) = 0))))), (9, .int (nI (rs M (ow M 0) (c + 1 + d) c))), (8, .int (nI (rs M (ow M 0) c (c + 1 + d)))), (7, .int (nI (c + 1 + d))), (4, .int (nI ((sm (fun j => bb (me M (ow M 0) j 7 = 0)) c) + (bb ((me M (ow M 0) c 7) = 0))))), (3, .int (nI ((sm (fun j => es M (ow M 0) 127 (2 ^ j)) c) + (es M (ow M 0) 127 (2 ^ c))))), (2, .int (nI ((sm (fun j => es M (ow M 0) (2 ^ j) 127) c) + (es M (ow M 0) (2 ^ c) 127)))), (6, .int (nI c)), (1, .int (nI (pc4 (ow M 0) 7))), (0, .ref c0)]) hx hb dL_isWhole_208 hl (by decide) rfl (fun ls hl => ?_)
                refine lv_aload_n hx hb dL_isWhole_210 rfl (lv_at hl 10 rfl) ?_
                refine lv_iload hx hb dL_isWhole_211 (lv_at hl 8 rfl) ?_
                refine lv_iload hx hb dL_isWhole_213 (lv_at hl 4 rfl) ?_
                refine nr_const (v := 1) hx hb dL_isWhole_215 rfl ?_
                refine k_pair ⟨hx, hb, hml, hown, hts⟩ (cwV 3 hts gL_isWhole_X5_pair rfl rfl rfl (by decide +kernel) ⟨Nat.le_of_ble_eq_true rfl, Nat.le_of_ble_eq_true rfl⟩) hK hNW hAA  hO hS hl.1 (Nat.le_of_ble_eq_true rfl) dL_isWhole_216 ⟨Nat.zero_le _, Nat.zero_le _⟩ (fun H locs hO hS => ?_)
                have hO : q_OB G AA c0 hbd M hp _ := hO
                refine nr_top (y := nI (sh M (ow M 0) c (c + 1 + d))) (pa_1 (by omega) (by omega) (by omega)) ?_
                refine lv_aload_n hx hb dL_isWhole_219 rfl (lv_at hl 10 rfl) ?_
                refine lv_iload hx hb dL_isWhole_220 (lv_at hl 8 rfl) ?_
                refine nr_const (v := 5) hx hb dL_isWhole_222 rfl ?_
                refine k_cousin ⟨hx, hb, hml, hown, hts⟩ (cwV 2 hts gL_isWhole_X5_cousin rfl rfl rfl (by decide +kernel) ⟨Nat.le_of_ble_eq_true rfl, Nat.le_of_ble_eq_true rfl⟩) hK hNW hAA  hO hS hl.1 (Nat.le_of_ble_eq_true rfl) dL_isWhole_223 ⟨Nat.zero_le _, Nat.zero_le _⟩ (fun H locs hO hS => ?_)
                have hO : q_OB G AA c0 hbd M hp _ := hO
                refine nr_top (y := nI (sh M (ow M 0) c c)) (cz_5 (by omega)) ?_
                refine join_v (T := Nat) (J := 234) (nL := 13) (fun v => [(10, .int (nI 0)), (5, .int (nI ((td M (ow M 0) (7 * c + (c + 1 + d))) + (bb ((rs M (ow M 0) c (c + 1 + d)) = 0))))), (9, .int (nI (rs M (ow M 0) (c + 1 + d) c))), (8, .int (nI (rs M (ow M 0) c (c + 1 + d)))), (7, .int (nI (c + 1 + d))), (4, .int (nI ((sm (fun j => bb (me M (ow M 0) j 7 = 0)) c) + (bb ((me M (ow M 0) c 7) = 0))))), (3, .int (nI ((sm (fun j => es M (ow M 0) 127 (2 ^ j)) c) + (es M (ow M 0) 127 (2 ^ c))))), (2, .int (nI ((sm (fun j => es M (ow M 0) (2 ^ j) 127) c) + (es M (ow M 0) (2 ^ c) 127)))), (6, .int (nI c)), (1, .int (nI (pc4 (ow M 0) 7))), (0, .ref c0)]) (fun v => [.int (nI v)]) (fun v => v = bb (¬ ((sh M (ow M 0) c (c + 1 + d)) ≤ (sh M (ow M 0) c c)))) ?_ (fun jj37 => ?_)
                · intro v ls hl hv38
                  subst hv38
                  refine lv_istore (lv' := [(11, .int (nI (bb (¬ ((sh M (ow M 0) c (c + 1 + d)) ≤ (sh M (ow M 0) c c)))))), (10, .int (nI 0)), (5, .int (nI ((td M (ow M 0) (7 * c + (c + 1 + d))) + (bb ((rs M (ow M 0) c (c + 1 + d)) = 0))))), (9, .int (nI (rs M (ow M 0) (c + 1 + d) c))), (8, .int (nI (rs M (ow M 0) c (c + 1 + d)))), (7, .int (nI (c + 1 + d))), (4, .int (nI ((sm (fun j => bb (me M (ow M 0) j 7 = 0)) c) + (bb ((me M (ow M 0) c 7) = 0))))), (3, .int (nI ((sm (fun j => es M (ow M 0) 127 (2 ^ j)) c) + (es M (ow M 0) 127 (2 ^ c))))), (2, .int (nI ((sm (fun j => es M (ow M 0) (2 ^ j) 127) c) + (es M (ow M 0) (2 ^ c) 127)))), (6, .int (nI c)), (1, .int (nI (pc4 (ow M 0) 7))), (0, .ref c0)]) hx hb dL_isWhole_234 hl (by decide) rfl (fun ls hl => ?_)
                  refine lv_aload_n hx hb dL_isWhole_236 rfl (lv_at hl 11 rfl) ?_
                  refine lv_iload hx hb dL_isWhole_237 (lv_at hl 5 rfl) ?_
                  refine lv_iload hx hb dL_isWhole_239 (lv_at hl 9 rfl) ?_
                  refine nr_const (v := 1) hx hb dL_isWhole_241 rfl ?_
                  refine k_pair ⟨hx, hb, hml, hown, hts⟩ (cwV 3 hts gL_isWhole_X5_pair rfl rfl rfl (by decide +kernel) ⟨Nat.le_of_ble_eq_true rfl, Nat.le_of_ble_eq_true rfl⟩) hK hNW hAA  hO hS hl.1 (Nat.le_of_ble_eq_true rfl) dL_isWhole_242 ⟨Nat.zero_le _, Nat.zero_le _⟩ (fun H locs hO hS => ?_)
                  have hO : q_OB G AA c0 hbd M hp _ := hO
                  refine nr_top (y := nI (sh M (ow M 0) (c + 1 + d) c)) (pa_1 (by omega) (by omega) (by omega)) ?_
                  refine lv_aload_n hx hb dL_isWhole_245 rfl (lv_at hl 11 rfl) ?_
                  refine lv_iload hx hb dL_isWhole_246 (lv_at hl 5 rfl) ?_
                  refine nr_const (v := 5) hx hb dL_isWhole_248 rfl ?_
                  refine k_cousin ⟨hx, hb, hml, hown, hts⟩ (cwV 2 hts gL_isWhole_X5_cousin rfl rfl rfl (by decide +kernel) ⟨Nat.le_of_ble_eq_true rfl, Nat.le_of_ble_eq_true rfl⟩) hK hNW hAA  hO hS hl.1 (Nat.le_of_ble_eq_true rfl) dL_isWhole_249 ⟨Nat.zero_le _, Nat.zero_le _⟩ (fun H locs hO hS => ?_)
                  have hO : q_OB G AA c0 hbd M hp _ := hO
                  refine nr_top (y := nI (sh M (ow M 0) (c + 1 + d) (c + 1 + d))) (cz_5 (by omega)) ?_
                  refine join_v (T := Nat) (J := 260) (nL := 13) (fun v => [(11, .int (nI (bb (¬ ((sh M (ow M 0) c (c + 1 + d)) ≤ (sh M (ow M 0) c c)))))), (10, .int (nI 0)), (5, .int (nI ((td M (ow M 0) (7 * c + (c + 1 + d))) + (bb ((rs M (ow M 0) c (c + 1 + d)) = 0))))), (9, .int (nI (rs M (ow M 0) (c + 1 + d) c))), (8, .int (nI (rs M (ow M 0) c (c + 1 + d)))), (7, .int (nI (c + 1 + d))), (4, .int (nI ((sm (fun j => bb (me M (ow M 0) j 7 = 0)) c) + (bb ((me M (ow M 0) c 7) = 0))))), (3, .int (nI ((sm (fun j => es M (ow M 0) 127 (2 ^ j)) c) + (es M (ow M 0) 127 (2 ^ c))))), (2, .int (nI ((sm (fun j => es M (ow M 0) (2 ^ j) 127) c) + (es M (ow M 0) (2 ^ c) 127)))), (6, .int (nI c)), (1, .int (nI (pc4 (ow M 0) 7))), (0, .ref c0)]) (fun v => [.int (nI v)]) (fun v => v = bb (¬ ((sh M (ow M 0) (c + 1 + d) c) ≤ (sh M (ow M 0) (c + 1 + d) (c + 1 + d))))) ?_ (fun jj39 => ?_)
                  · intro v ls hl hv40
                    subst hv40
                    refine lv_istore (lv' := [(12, .int (nI (bb (¬ ((sh M (ow M 0) (c + 1 + d) c) ≤ (sh M (ow M 0) (c + 1 + d) (c + 1 + d))))))), (11, .int (nI (bb (¬ ((sh M (ow M 0) c (c + 1 + d)) ≤ (sh M (ow M 0) c c)))))), (10, .int (nI 0)), (5, .int (nI ((td M (ow M 0) (7 * c + (c + 1 + d))) + (bb ((rs M (ow M 0) c (c + 1 + d)) = 0))))), (9, .int (nI (rs M (ow M 0) (c + 1 + d) c))), (8, .int (nI (rs M (ow M 0) c (c + 1 + d)))), (7, .int (nI (c + 1 + d))), (4, .int (nI ((sm (fun j => bb (me M (ow M 0) j 7 = 0)) c) + (bb ((me M (ow M 0) c 7) = 0))))), (3, .int (nI ((sm (fun j => es M (ow M 0) 127 (2 ^ j)) c) + (es M (ow M 0) 127 (2 ^ c))))), (2, .int (nI ((sm (fun j => es M (ow M 0) (2 ^ j) 127) c) + (es M (ow M 0) (2 ^ c) 127)))), (6, .int (nI c)), (1, .int (nI (pc4 (ow M 0) 7))), (0, .ref c0)]) hx hb dL_isWhole_260 hl (by decide) rfl (fun ls hl => ?_)
                    refine lv_iload hx hb dL_isWhole_262 (lv_at hl 5 rfl) ?_
                    refine lv_iload hx hb dL_isWhole_264 (lv_at hl 2 rfl) ?_
                    refine br_eq0 (tgt := 273) hx hb dL_isWhole_266 (by decide) (by decide) (fun h41 => ?_) (fun h41 => ?_)
                    · skip
                      refine lv_iload hx hb dL_isWhole_273 (lv_at hl 1 rfl) ?_
                      refine br_neb (tgt := 282) hx hb dL_isWhole_275 (by decide) (fun h42 => ?_) (fun h42 => ?_)
                      · skip
                        refine lv_iload hx hb dL_isWhole_282 (lv_at hl 0 rfl) ?_
                        refine br_neb (tgt := 291) hx hb dL_isWhole_284 (by decide) (fun h43 => ?_) (fun h43 => ?_)
                        · skip
                          refine nr_const (v := 0) hx hb dL_isWhole_291 rfl ?_
                          refine br_ine (tgt := 328) hx hb dL_isWhole_292 (by decide) (by omega) (by decide) (fun h44 => ?_) (fun h44 => ?_)
                          · exact absurd (by unfold rs; (repeat' split) <;> omega) h44
                          · skip
                            refine lv_iload hx hb dL_isWhole_295 (lv_at hl 4 rfl) ?_
                            refine lv_iload hx hb dL_isWhole_297 (lv_at hl 2 rfl) ?_
                            refine br_eq0 (tgt := 306) hx hb dL_isWhole_299 (by decide) (by decide) (fun h45 => ?_) (fun h45 => ?_)
                            · skip
                              refine lv_iload hx hb dL_isWhole_306 (lv_at hl 0 rfl) ?_
                              refine br_neb (tgt := 315) hx hb dL_isWhole_308 (by decide) (fun h46 => ?_) (fun h46 => ?_)
                              · skip
                                refine lv_iload hx hb dL_isWhole_315 (lv_at hl 1 rfl) ?_
                                refine br_neb (tgt := 324) hx hb dL_isWhole_317 (by decide) (fun h47 => ?_) (fun h47 => ?_)
                                · skip
                                  refine nr_const (v := 0) hx hb dL_isWhole_324 rfl ?_
                                  refine br_ieq (tgt := 330) hx hb dL_isWhole_325 (by decide) (by omega) (by decide) (fun h48 => ?_) (fun h48 => ?_)
                                  · skip
                                    refine nr_inc (d := 1) (v := (c + 1 + d) + 1) (lv' := [(7, .int (nI ((c + 1 + d) + 1))), (12, .int (nI (bb (¬ ((sh M (ow M 0) (c + 1 + d) c) ≤ (sh M (ow M 0) (c + 1 + d) (c + 1 + d))))))), (11, .int (nI (bb (¬ ((sh M (ow M 0) c (c + 1 + d)) ≤ (sh M (ow M 0) c c)))))), (10, .int (nI 0)), (5, .int (nI ((td M (ow M 0) (7 * c + (c + 1 + d))) + (bb ((rs M (ow M 0) c (c + 1 + d)) = 0))))), (9, .int (nI (rs M (ow M 0) (c + 1 + d) c))), (8, .int (nI (rs M (ow M 0) c (c + 1 + d)))), (4, .int (nI ((sm (fun j => bb (me M (ow M 0) j 7 = 0)) c) + (bb ((me M (ow M 0) c 7) = 0))))), (3, .int (nI ((sm (fun j => es M (ow M 0) 127 (2 ^ j)) c) + (es M (ow M 0) 127 (2 ^ c))))), (2, .int (nI ((sm (fun j => es M (ow M 0) (2 ^ j) 127) c) + (es M (ow M 0) (2 ^ c) 127)))), (6, .int (nI c)), (1, .int (nI (pc4 (ow M 0) 7))), (0, .ref c0)]) hx hb dL_isWhole_330 hl (k := 6) rfl rfl (by decide) rfl (fun ls hl => ?_)
                                    refine lv_goto (tgt := 125) hx hb dL_isWhole_333 (by decide) ?_
                                    have efx : td M (ow M 0) (7 * c + (c + 1 + (d + 1))) = td M (ow M 0) (7 * c + (c + 1 + d)) + bb (rs M (ow M 0) c (c + 1 + d) = 0) := td_s M (ow M 0) (a := c) (b := c + 1 + d) (by omega) (by omega)
                                    exact ih20 (d + 1) ls H locs (by show lv_has ls 13 [(7, .int (nI (c + 1 + (d + 1)))), (4, .int (nI ((sm (fun j => bb (me M (ow M 0) j 7 = 0)) c) + (bb ((me M (ow M 0) c 7) = 0))))), (3, .int (nI ((sm (fun j => es M (ow M 0) 127 (2 ^ j)) c) + (es M (ow M 0) 127 (2 ^ c))))), (2, .int (nI ((sm (fun j => es M (ow M 0) (2 ^ j) 127) c) + (es M (ow M 0) (2 ^ c) 127)))), (6, .int (nI c)), (5, .int (nI (td M (ow M 0) (7 * c + (c + 1 + (d + 1)))))), (1, .int (nI (pc4 (ow M 0) 7))), (0, .ref c0)]; rw [efx]; exact lv_sub hl [0, 7, 8, 9, 10, 4, 11, 12] rfl) hO hS (by omega) (by omega)
                                  · exact absurd (by unfold rs; (repeat' split) <;> omega) h48
                                · exact absurd h42 h47
                              · exact absurd h43 h46
                            · exact absurd (by decide) h45
                        · skip
                          refine nr_const (v := 3) hx hb dL_isWhole_287 rfl ?_
                          refine lv_goto (tgt := 292) hx hb dL_isWhole_288 (by decide) ?_
                          refine br_ine (tgt := 328) hx hb dL_isWhole_292 (by decide) (by omega) (by decide) (fun h49 => ?_) (fun h49 => ?_)
                          · exact absurd (by unfold rs; (repeat' split) <;> omega) h49
                          · skip
                            refine lv_iload hx hb dL_isWhole_295 (lv_at hl 4 rfl) ?_
                            refine lv_iload hx hb dL_isWhole_297 (lv_at hl 2 rfl) ?_
                            refine br_eq0 (tgt := 306) hx hb dL_isWhole_299 (by decide) (by decide) (fun h50 => ?_) (fun h50 => ?_)
                            · skip
                              refine lv_iload hx hb dL_isWhole_306 (lv_at hl 0 rfl) ?_
                              refine br_neb (tgt := 315) hx hb dL_isWhole_308 (by decide) (fun h51 => ?_) (fun h51 => ?_)
                              · exact absurd h51 h43
                              · skip
                                refine nr_const (v := 2) hx hb dL_isWhole_311 rfl ?_
                                refine lv_goto (tgt := 325) hx hb dL_isWhole_312 (by decide) ?_
                                refine br_ieq (tgt := 330) hx hb dL_isWhole_325 (by decide) (by omega) (by decide) (fun h52 => ?_) (fun h52 => ?_)
                                · skip
                                  refine nr_inc (d := 1) (v := (c + 1 + d) + 1) (lv' := [(7, .int (nI ((c + 1 + d) + 1))), (12, .int (nI (bb (¬ ((sh M (ow M 0) (c + 1 + d) c) ≤ (sh M (ow M 0) (c + 1 + d) (c + 1 + d))))))), (11, .int (nI (bb (¬ ((sh M (ow M 0) c (c + 1 + d)) ≤ (sh M (ow M 0) c c)))))), (10, .int (nI 0)), (5, .int (nI ((td M (ow M 0) (7 * c + (c + 1 + d))) + (bb ((rs M (ow M 0) c (c + 1 + d)) = 0))))), (9, .int (nI (rs M (ow M 0) (c + 1 + d) c))), (8, .int (nI (rs M (ow M 0) c (c + 1 + d)))), (4, .int (nI ((sm (fun j => bb (me M (ow M 0) j 7 = 0)) c) + (bb ((me M (ow M 0) c 7) = 0))))), (3, .int (nI ((sm (fun j => es M (ow M 0) 127 (2 ^ j)) c) + (es M (ow M 0) 127 (2 ^ c))))), (2, .int (nI ((sm (fun j => es M (ow M 0) (2 ^ j) 127) c) + (es M (ow M 0) (2 ^ c) 127)))), (6, .int (nI c)), (1, .int (nI (pc4 (ow M 0) 7))), (0, .ref c0)]) hx hb dL_isWhole_330 hl (k := 6) rfl rfl (by decide) rfl (fun ls hl => ?_)
                                  refine lv_goto (tgt := 125) hx hb dL_isWhole_333 (by decide) ?_
                                  have efx : td M (ow M 0) (7 * c + (c + 1 + (d + 1))) = td M (ow M 0) (7 * c + (c + 1 + d)) + bb (rs M (ow M 0) c (c + 1 + d) = 0) := td_s M (ow M 0) (a := c) (b := c + 1 + d) (by omega) (by omega)
                                  exact ih20 (d + 1) ls H locs (by show lv_has ls 13 [(7, .int (nI (c + 1 + (d + 1)))), (4, .int (nI ((sm (fun j => bb (me M (ow M 0) j 7 = 0)) c) + (bb ((me M (ow M 0) c 7) = 0))))), (3, .int (nI ((sm (fun j => es M (ow M 0) 127 (2 ^ j)) c) + (es M (ow M 0) 127 (2 ^ c))))), (2, .int (nI ((sm (fun j => es M (ow M 0) (2 ^ j) 127) c) + (es M (ow M 0) (2 ^ c) 127)))), (6, .int (nI c)), (5, .int (nI (td M (ow M 0) (7 * c + (c + 1 + (d + 1)))))), (1, .int (nI (pc4 (ow M 0) 7))), (0, .ref c0)]; rw [efx]; exact lv_sub hl [0, 7, 8, 9, 10, 4, 11, 12] rfl) hO hS (by omega) (by omega)
                                · exact absurd (by unfold rs; (repeat' split) <;> omega) h52
                            · exact absurd (by decide) h50
                      · skip
                        refine nr_const (v := 2) hx hb dL_isWhole_278 rfl ?_
                        refine lv_goto (tgt := 292) hx hb dL_isWhole_279 (by decide) ?_
                        refine br_ine (tgt := 328) hx hb dL_isWhole_292 (by decide) (by omega) (by decide) (fun h53 => ?_) (fun h53 => ?_)
                        · exact absurd (by unfold rs; (repeat' split) <;> omega) h53
                        · skip
                          refine lv_iload hx hb dL_isWhole_295 (lv_at hl 4 rfl) ?_
                          refine lv_iload hx hb dL_isWhole_297 (lv_at hl 2 rfl) ?_
                          refine br_eq0 (tgt := 306) hx hb dL_isWhole_299 (by decide) (by decide) (fun h54 => ?_) (fun h54 => ?_)
                          · skip
                            refine lv_iload hx hb dL_isWhole_306 (lv_at hl 0 rfl) ?_
                            refine br_neb (tgt := 315) hx hb dL_isWhole_308 (by decide) (fun h55 => ?_) (fun h55 => ?_)
                            · skip
                              refine lv_iload hx hb dL_isWhole_315 (lv_at hl 1 rfl) ?_
                              refine br_neb (tgt := 324) hx hb dL_isWhole_317 (by decide) (fun h56 => ?_) (fun h56 => ?_)
                              · exact absurd h56 h42
                              · skip
                                refine nr_const (v := 3) hx hb dL_isWhole_320 rfl ?_
                                refine lv_goto (tgt := 325) hx hb dL_isWhole_321 (by decide) ?_
                                refine br_ieq (tgt := 330) hx hb dL_isWhole_325 (by decide) (by omega) (by decide) (fun h57 => ?_) (fun h57 => ?_)
                                · skip
                                  refine nr_inc (d := 1) (v := (c + 1 + d) + 1) (lv' := [(7, .int (nI ((c + 1 + d) + 1))), (12, .int (nI (bb (¬ ((sh M (ow M 0) (c + 1 + d) c) ≤ (sh M (ow M 0) (c + 1 + d) (c + 1 + d))))))), (11, .int (nI (bb (¬ ((sh M (ow M 0) c (c + 1 + d)) ≤ (sh M (ow M 0) c c)))))), (10, .int (nI 0)), (5, .int (nI ((td M (ow M 0) (7 * c + (c + 1 + d))) + (bb ((rs M (ow M 0) c (c + 1 + d)) = 0))))), (9, .int (nI (rs M (ow M 0) (c + 1 + d) c))), (8, .int (nI (rs M (ow M 0) c (c + 1 + d)))), (4, .int (nI ((sm (fun j => bb (me M (ow M 0) j 7 = 0)) c) + (bb ((me M (ow M 0) c 7) = 0))))), (3, .int (nI ((sm (fun j => es M (ow M 0) 127 (2 ^ j)) c) + (es M (ow M 0) 127 (2 ^ c))))), (2, .int (nI ((sm (fun j => es M (ow M 0) (2 ^ j) 127) c) + (es M (ow M 0) (2 ^ c) 127)))), (6, .int (nI c)), (1, .int (nI (pc4 (ow M 0) 7))), (0, .ref c0)]) hx hb dL_isWhole_330 hl (k := 6) rfl rfl (by decide) rfl (fun ls hl => ?_)
                                  refine lv_goto (tgt := 125) hx hb dL_isWhole_333 (by decide) ?_
                                  have efx : td M (ow M 0) (7 * c + (c + 1 + (d + 1))) = td M (ow M 0) (7 * c + (c + 1 + d)) + bb (rs M (ow M 0) c (c + 1 + d) = 0) := td_s M (ow M 0) (a := c) (b := c + 1 + d) (by omega) (by omega)
                                  exact ih20 (d + 1) ls H locs (by show lv_has ls 13 [(7, .int (nI (c + 1 + (d + 1)))), (4, .int (nI ((sm (fun j => bb (me M (ow M 0) j 7 = 0)) c) + (bb ((me M (ow M 0) c 7) = 0))))), (3, .int (nI ((sm (fun j => es M (ow M 0) 127 (2 ^ j)) c) + (es M (ow M 0) 127 (2 ^ c))))), (2, .int (nI ((sm (fun j => es M (ow M 0) (2 ^ j) 127) c) + (es M (ow M 0) (2 ^ c) 127)))), (6, .int (nI c)), (5, .int (nI (td M (ow M 0) (7 * c + (c + 1 + (d + 1)))))), (1, .int (nI (pc4 (ow M 0) 7))), (0, .ref c0)]; rw [efx]; exact lv_sub hl [0, 7, 8, 9, 10, 4, 11, 12] rfl) hO hS (by omega) (by omega)
                                · exact absurd (by unfold rs; (repeat' split) <;> omega) h57
                            · skip
                              refine nr_const (v := 2) hx hb dL_isWhole_311 rfl ?_
                              refine lv_goto (tgt := 325) hx hb dL_isWhole_312 (by decide) ?_
                              refine br_ieq (tgt := 330) hx hb dL_isWhole_325 (by decide) (by omega) (by decide) (fun h58 => ?_) (fun h58 => ?_)
                              · skip
                                refine nr_inc (d := 1) (v := (c + 1 + d) + 1) (lv' := [(7, .int (nI ((c + 1 + d) + 1))), (12, .int (nI (bb (¬ ((sh M (ow M 0) (c + 1 + d) c) ≤ (sh M (ow M 0) (c + 1 + d) (c + 1 + d))))))), (11, .int (nI (bb (¬ ((sh M (ow M 0) c (c + 1 + d)) ≤ (sh M (ow M 0) c c)))))), (10, .int (nI 0)), (5, .int (nI ((td M (ow M 0) (7 * c + (c + 1 + d))) + (bb ((rs M (ow M 0) c (c + 1 + d)) = 0))))), (9, .int (nI (rs M (ow M 0) (c + 1 + d) c))), (8, .int (nI (rs M (ow M 0) c (c + 1 + d)))), (4, .int (nI ((sm (fun j => bb (me M (ow M 0) j 7 = 0)) c) + (bb ((me M (ow M 0) c 7) = 0))))), (3, .int (nI ((sm (fun j => es M (ow M 0) 127 (2 ^ j)) c) + (es M (ow M 0) 127 (2 ^ c))))), (2, .int (nI ((sm (fun j => es M (ow M 0) (2 ^ j) 127) c) + (es M (ow M 0) (2 ^ c) 127)))), (6, .int (nI c)), (1, .int (nI (pc4 (ow M 0) 7))), (0, .ref c0)]) hx hb dL_isWhole_330 hl (k := 6) rfl rfl (by decide) rfl (fun ls hl => ?_)
                                refine lv_goto (tgt := 125) hx hb dL_isWhole_333 (by decide) ?_
                                have efx : td M (ow M 0) (7 * c + (c + 1 + (d + 1))) = td M (ow M 0) (7 * c + (c + 1 + d)) + bb (rs M (ow M 0) c (c + 1 + d) = 0) := td_s M (ow M 0) (a := c) (b := c + 1 + d) (by omega) (by omega)
                                exact ih20 (d + 1) ls H locs (by show lv_has ls 13 [(7, .int (nI (c + 1 + (d + 1)))), (4, .int (nI ((sm (fun j => bb (me M (ow M 0) j 7 = 0)) c) + (bb ((me M (ow M 0) c 7) = 0))))), (3, .int (nI ((sm (fun j => es M (ow M 0) 127 (2 ^ j)) c) + (es M (ow M 0) 127 (2 ^ c))))), (2, .int (nI ((sm (fun j => es M (ow M 0) (2 ^ j) 127) c) + (es M (ow M 0) (2 ^ c) 127)))), (6, .int (nI c)), (5, .int (nI (td M (ow M 0) (7 * c + (c + 1 + (d + 1)))))), (1, .int (nI (pc4 (ow M 0) 7))), (0, .ref c0)]; rw [efx]; exact lv_sub hl [0, 7, 8, 9, 10, 4, 11, 12] rfl) hO hS (by omega) (by omega)
                              · exact absurd (by unfold rs; (repeat' split) <;> omega) h58
                          · exact absurd (by decide) h54
                    · exact absurd (by decide) h41
                  · skip
                    refine br_ile (tgt := 259) hx hb dL_isWhole_252 (by decide) (by omega) (by omega) (fun h59 => ?_) (fun h59 => ?_)
                    · skip
                      refine nr_const (v := 0) hx hb dL_isWhole_259 rfl ?_
                      exact jj39 0 ls (lv_sub hl [0, 1, 2, 3, 4, 5, 6, 7, 8, 9, 10, 11] rfl) (bb_f (fun q => q h59)).symm
                    · skip
                      refine nr_const (v := 1) hx hb dL_isWhole_255 rfl ?_
                      refine lv_goto (tgt := 260) hx hb dL_isWhole_256 (by decide) ?_
                      exact jj39 1 ls (lv_sub hl [0, 1, 2, 3, 4, 5, 6, 7, 8, 9, 10, 11] rfl) (bb_t h59).symm
                · skip
                  refine br_ile (tgt := 233) hx hb dL_isWhole_226 (by decide) (by omega) (by omega) (fun h60 => ?_) (fun h60 => ?_)
                  · skip
                    refine nr_const (v := 0) hx hb dL_isWhole_233 rfl ?_
                    exact jj37 0 ls (lv_sub hl [0, 1, 2, 3, 4, 5, 6, 7, 8, 9, 10] rfl) (bb_f (fun q => q h60)).symm
                  · skip
                    refine nr_const (v := 1) hx hb dL_isWhole_229 rfl ?_
                    refine lv_goto (tgt := 234) hx hb dL_isWhole_230 (by decide) ?_
                    exact jj37 1 ls (lv_sub hl [0, 1, 2, 3, 4, 5, 6, 7, 8, 9, 10] rfl) (bb_t h60).symm
              · skip
                refine nr_const (v := 1) hx hb dL_isWhole_203 rfl ?_
                refine lv_goto (tgt := 208) hx hb dL_isWhole_204 (by decide) ?_
                refine lv_istore (lv' := [(10, .int (nI 1)), (5, .int (nI ((td M (ow M 0) (7 * c + (c + 1 + d))) + (bb ((rs M (ow M 0) c (c + 1 + d)) = 0))))), (9, .int (nI (rs M (ow M 0) (c + 1 + d) c))), (8, .int (nI (rs M (ow M 0) c (c + 1 + d)))), (7, .int (nI (c + 1 + d))), (4, .int (nI ((sm (fun j => bb (me M (ow M 0) j 7 = 0)) c) + (bb ((me M (ow M 0) c 7) = 0))))), (3, .int (nI ((sm (fun j => es M (ow M 0) 127 (2 ^ j)) c) + (es M (ow M 0) 127 (2 ^ c))))), (2, .int (nI ((sm (fun j => es M (ow M 0) (2 ^ j) 127) c) + (es M (ow M 0) (2 ^ c) 127)))), (6, .int (nI c)), (1, .int (nI (pc4 (ow M 0) 7))), (0, .ref c0)]) hx hb dL_isWhole_208 hl (by decide) rfl (fun ls hl => ?_)
                refine lv_aload_n hx hb dL_isWhole_210 rfl (lv_at hl 10 rfl) ?_
                refine lv_iload hx hb dL_isWhole_211 (lv_at hl 8 rfl) ?_
                refine lv_iload hx hb dL_isWhole_213 (lv_at hl 4 rfl) ?_
                refine nr_const (v := 1) hx hb dL_isWhole_215 rfl ?_
                refine k_pair ⟨hx, hb, hml, hown, hts⟩ (cwV 3 hts gL_isWhole_X5_pair rfl rfl rfl (by decide +kernel) ⟨Nat.le_of_ble_eq_true rfl, Nat.le_of_ble_eq_true rfl⟩) hK hNW hAA  hO hS hl.1 (Nat.le_of_ble_eq_true rfl) dL_isWhole_216 ⟨Nat.zero_le _, Nat.zero_le _⟩ (fun H locs hO hS => ?_)
                have hO : q_OB G AA c0 hbd M hp _ := hO
                refine nr_top (y := nI (sh M (ow M 0) c (c + 1 + d))) (pa_1 (by omega) (by omega) (by omega)) ?_
                refine lv_aload_n hx hb dL_isWhole_219 rfl (lv_at hl 10 rfl) ?_
                refine lv_iload hx hb dL_isWhole_220 (lv_at hl 8 rfl) ?_
                refine nr_const (v := 5) hx hb dL_isWhole_222 rfl ?_
                refine k_cousin ⟨hx, hb, hml, hown, hts⟩ (cwV 2 hts gL_isWhole_X5_cousin rfl rfl rfl (by decide +kernel) ⟨Nat.le_of_ble_eq_true rfl, Nat.le_of_ble_eq_true rfl⟩) hK hNW hAA  hO hS hl.1 (Nat.le_of_ble_eq_true rfl) dL_isWhole_223 ⟨Nat.zero_le _, Nat.zero_le _⟩ (fun H locs hO hS => ?_)
                have hO : q_OB G AA c0 hbd M hp _ := hO
                refine nr_top (y := nI (sh M (ow M 0) c c)) (cz_5 (by omega)) ?_
                refine join_v (T := Nat) (J := 234) (nL := 13) (fun v => [(10, .int (nI 1)), (5, .int (nI ((td M (ow M 0) (7 * c + (c + 1 + d))) + (bb ((rs M (ow M 0) c (c + 1 + d)) = 0))))), (9, .int (nI (rs M (ow M 0) (c + 1 + d) c))), (8, .int (nI (rs M (ow M 0) c (c + 1 + d)))), (7, .int (nI (c + 1 + d))), (4, .int (nI ((sm (fun j => bb (me M (ow M 0) j 7 = 0)) c) + (bb ((me M (ow M 0) c 7) = 0))))), (3, .int (nI ((sm (fun j => es M (ow M 0) 127 (2 ^ j)) c) + (es M (ow M 0) 127 (2 ^ c))))), (2, .int (nI ((sm (fun j => es M (ow M 0) (2 ^ j) 127) c) + (es M (ow M 0) (2 ^ c) 127)))), (6, .int (nI c)), (1, .int (nI (pc4 (ow M 0) 7))), (0, .ref c0)]) (fun v => [.int (nI v)]) (fun v => v = bb (¬ ((sh M (ow M 0) c (c + 1 + d)) ≤ (sh M (ow M 0) c c)))) ?_ (fun jj61 => ?_)
                · intro v ls hl hv62
                  subst hv62
                  refine lv_istore (lv' := [(11, .int (nI (bb (¬ ((sh M (ow M 0) c (c + 1 + d)) ≤ (sh M (ow M 0) c c)))))), (10, .int (nI 1)), (5, .int (nI ((td M (ow M 0) (7 * c + (c + 1 + d))) + (bb ((rs M (ow M 0) c (c + 1 + d)) = 0))))), (9, .int (nI (rs M (ow M 0) (c + 1 + d) c))), (8, .int (nI (rs M (ow M 0) c (c + 1 + d)))), (7, .int (nI (c + 1 + d))), (4, .int (nI ((sm (fun j => bb (me M (ow M 0) j 7 = 0)) c) + (bb ((me M (ow M 0) c 7) = 0))))), (3, .int (nI ((sm (fun j => es M (ow M 0) 127 (2 ^ j)) c) + (es M (ow M 0) 127 (2 ^ c))))), (2, .int (nI ((sm (fun j => es M (ow M 0) (2 ^ j) 127) c) + (es M (ow M 0) (2 ^ c) 127)))), (6, .int (nI c)), (1, .int (nI (pc4 (ow M 0) 7))), (0, .ref c0)]) hx hb dL_isWhole_234 hl (by decide) rfl (fun ls hl => ?_)
                  refine lv_aload_n hx hb dL_isWhole_236 rfl (lv_at hl 11 rfl) ?_
                  refine lv_iload hx hb dL_isWhole_237 (lv_at hl 5 rfl) ?_
                  refine lv_iload hx hb dL_isWhole_239 (lv_at hl 9 rfl) ?_
                  refine nr_const (v := 1) hx hb dL_isWhole_241 rfl ?_
                  refine k_pair ⟨hx, hb, hml, hown, hts⟩ (cwV 3 hts gL_isWhole_X5_pair rfl rfl rfl (by decide +kernel) ⟨Nat.le_of_ble_eq_true rfl, Nat.le_of_ble_eq_true rfl⟩) hK hNW hAA  hO hS hl.1 (Nat.le_of_ble_eq_true rfl) dL_isWhole_242 ⟨Nat.zero_le _, Nat.zero_le _⟩ (fun H locs hO hS => ?_)
                  have hO : q_OB G AA c0 hbd M hp _ := hO
                  refine nr_top (y := nI (sh M (ow M 0) (c + 1 + d) c)) (pa_1 (by omega) (by omega) (by omega)) ?_
                  refine lv_aload_n hx hb dL_isWhole_245 rfl (lv_at hl 11 rfl) ?_
                  refine lv_iload hx hb dL_isWhole_246 (lv_at hl 5 rfl) ?_
                  refine nr_const (v := 5) hx hb dL_isWhole_248 rfl ?_
                  refine k_cousin ⟨hx, hb, hml, hown, hts⟩ (cwV 2 hts gL_isWhole_X5_cousin rfl rfl rfl (by decide +kernel) ⟨Nat.le_of_ble_eq_true rfl, Nat.le_of_ble_eq_true rfl⟩) hK hNW hAA  hO hS hl.1 (Nat.le_of_ble_eq_true rfl) dL_isWhole_249 ⟨Nat.zero_le _, Nat.zero_le _⟩ (fun H locs hO hS => ?_)
                  have hO : q_OB G AA c0 hbd M hp _ := hO
                  refine nr_top (y := nI (sh M (ow M 0) (c + 1 + d) (c + 1 + d))) (cz_5 (by omega)) ?_
                  refine join_v (T := Nat) (J := 260) (nL := 13) (fun v => [(11, .int (nI (bb (¬ ((sh M (ow M 0) c (c + 1 + d)) ≤ (sh M (ow M 0) c c)))))), (10, .int (nI 1)), (5, .int (nI ((td M (ow M 0) (7 * c + (c + 1 + d))) + (bb ((rs M (ow M 0) c (c + 1 + d)) = 0))))), (9, .int (nI (rs M (ow M 0) (c + 1 + d) c))), (8, .int (nI (rs M (ow M 0) c (c + 1 + d)))), (7, .int (nI (c + 1 + d))), (4, .int (nI ((sm (fun j => bb (me M (ow M 0) j 7 = 0)) c) + (bb ((me M (ow M 0) c 7) = 0))))), (3, .int (nI ((sm (fun j => es M (ow M 0) 127 (2 ^ j)) c) + (es M (ow M 0) 127 (2 ^ c))))), (2, .int (nI ((sm (fun j => es M (ow M 0) (2 ^ j) 127) c) + (es M (ow M 0) (2 ^ c) 127)))), (6, .int (nI c)), (1, .int (nI (pc4 (ow M 0) 7))), (0, .ref c0)]) (fun v => [.int (nI v)]) (fun v => v = bb (¬ ((sh M (ow M 0) (c + 1 + d) c) ≤ (sh M (ow M 0) (c + 1 + d) (c + 1 + d))))) ?_ (fun jj63 => ?_)
                  · intro v ls hl hv64
                    subst hv64
                    refine lv_istore (lv' := [(12, .int (nI (bb (¬ ((sh M (ow M 0) (c + 1 + d) c) ≤ (sh M (ow M 0) (c + 1 + d) (c + 1 + d))))))), (11, .int (nI (bb (¬ ((sh M (ow M 0) c (c + 1 + d)) ≤ (sh M (ow M 0) c c)))))), (10, .int (nI 1)), (5, .int (nI ((td M (ow M 0) (7 * c + (c + 1 + d))) + (bb ((rs M (ow M 0) c (c + 1 + d)) = 0))))), (9, .int (nI (rs M (ow M 0) (c + 1 + d) c))), (8, .int (nI (rs M (ow M 0) c (c + 1 + d)))), (7, .int (nI (c + 1 + d))), (4, .int (nI ((sm (fun j => bb (me M (ow M 0) j 7 = 0)) c) + (bb ((me M (ow M 0) c 7) = 0))))), (3, .int (nI ((sm (fun j => es M (ow M 0) 127 (2 ^ j)) c) + (es M (ow M 0) 127 (2 ^ c))))), (2, .int (nI ((sm (fun j => es M (ow M 0) (2 ^ j) 127) c) + (es M (ow M 0) (2 ^ c) 127)))), (6, .int (nI c)), (1, .int (nI (pc4 (ow M 0) 7))), (0, .ref c0)]) hx hb dL_isWhole_260 hl (by decide) rfl (fun ls hl => ?_)
                    refine lv_iload hx hb dL_isWhole_262 (lv_at hl 5 rfl) ?_
                    refine lv_iload hx hb dL_isWhole_264 (lv_at hl 2 rfl) ?_
                    refine br_eq0 (tgt := 273) hx hb dL_isWhole_266 (by decide) (by decide) (fun h65 => ?_) (fun h65 => ?_)
                    · exact absurd h65 (by decide)
                    · skip
                      refine nr_const (v := 1) hx hb dL_isWhole_269 rfl ?_
                      refine lv_goto (tgt := 292) hx hb dL_isWhole_270 (by decide) ?_
                      refine br_ine (tgt := 328) hx hb dL_isWhole_292 (by decide) (by omega) (by decide) (fun h66 => ?_) (fun h66 => ?_)
                      · exact absurd (by unfold rs; (repeat' split) <;> omega) h66
                      · skip
                        refine lv_iload hx hb dL_isWhole_295 (lv_at hl 4 rfl) ?_
                        refine lv_iload hx hb dL_isWhole_297 (lv_at hl 2 rfl) ?_
                        refine br_eq0 (tgt := 306) hx hb dL_isWhole_299 (by decide) (by decide) (fun h67 => ?_) (fun h67 => ?_)
                        · exact absurd h67 (by decide)
                        · skip
                          refine nr_const (v := 1) hx hb dL_isWhole_302 rfl ?_
                          refine lv_goto (tgt := 325) hx hb dL_isWhole_303 (by decide) ?_
                          refine br_ieq (tgt := 330) hx hb dL_isWhole_325 (by decide) (by omega) (by decide) (fun h68 => ?_) (fun h68 => ?_)
                          · skip
                            refine nr_inc (d := 1) (v := (c + 1 + d) + 1) (lv' := [(7, .int (nI ((c + 1 + d) + 1))), (12, .int (nI (bb (¬ ((sh M (ow M 0) (c + 1 + d) c) ≤ (sh M (ow M 0) (c + 1 + d) (c + 1 + d))))))), (11, .int (nI (bb (¬ ((sh M (ow M 0) c (c + 1 + d)) ≤ (sh M (ow M 0) c c)))))), (10, .int (nI 1)), (5, .int (nI ((td M (ow M 0) (7 * c + (c + 1 + d))) + (bb ((rs M (ow M 0) c (c + 1 + d)) = 0))))), (9, .int (nI (rs M (ow M 0) (c + 1 + d) c))), (8, .int (nI (rs M (ow M 0) c (c + 1 + d)))), (4, .int (nI ((sm (fun j => bb (me M (ow M 0) j 7 = 0)) c) + (bb ((me M (ow M 0) c 7) = 0))))), (3, .int (nI ((sm (fun j => es M (ow M 0) 127 (2 ^ j)) c) + (es M (ow M 0) 127 (2 ^ c))))), (2, .int (nI ((sm (fun j => es M (ow M 0) (2 ^ j) 127) c) + (es M (ow M 0) (2 ^ c) 127)))), (6, .int (nI c)), (1, .int (nI (pc4 (ow M 0) 7))), (0, .ref c0)]) hx hb dL_isWhole_330 hl (k := 6) rfl rfl (by decide) rfl (fun ls hl => ?_)
                            refine lv_goto (tgt := 125) hx hb dL_isWhole_333 (by decide) ?_
                            have efx : td M (ow M 0) (7 * c + (c + 1 + (d + 1))) = td M (ow M 0) (7 * c + (c + 1 + d)) + bb (rs M (ow M 0) c (c + 1 + d) = 0) := td_s M (ow M 0) (a := c) (b := c + 1 + d) (by omega) (by omega)
                            exact ih20 (d + 1) ls H locs (by show lv_has ls 13 [(7, .int (nI (c + 1 + (d + 1)))), (4, .int (nI ((sm (fun j => bb (me M (ow M 0) j 7 = 0)) c) + (bb ((me M (ow M 0) c 7) = 0))))), (3, .int (nI ((sm (fun j => es M (ow M 0) 127 (2 ^ j)) c) + (es M (ow M 0) 127 (2 ^ c))))), (2, .int (nI ((sm (fun j => es M (ow M 0) (2 ^ j) 127) c) + (es M (ow M 0) (2 ^ c) 127)))), (6, .int (nI c)), (5, .int (nI (td M (ow M 0) (7 * c + (c + 1 + (d + 1)))))), (1, .int (nI (pc4 (ow M 0) 7))), (0, .ref c0)]; rw [efx]; exact lv_sub hl [0, 7, 8, 9, 10, 4, 11, 12] rfl) hO hS (by omega) (by omega)
                          · exact absurd (by unfold rs; (repeat' split) <;> omega) h68
                  · skip
                    refine br_ile (tgt := 259) hx hb dL_isWhole_252 (by decide) (by omega) (by omega) (fun h69 => ?_) (fun h69 => ?_)
                    · skip
                      refine nr_const (v := 0) hx hb dL_isWhole_259 rfl ?_
                      exact jj63 0 ls (lv_sub hl [0, 1, 2, 3, 4, 5, 6, 7, 8, 9, 10, 11] rfl) (bb_f (fun q => q h69)).symm
                    · skip
                      refine nr_const (v := 1) hx hb dL_isWhole_255 rfl ?_
                      refine lv_goto (tgt := 260) hx hb dL_isWhole_256 (by decide) ?_
                      exact jj63 1 ls (lv_sub hl [0, 1, 2, 3, 4, 5, 6, 7, 8, 9, 10, 11] rfl) (bb_t h69).symm
                · skip
                  refine br_ile (tgt := 233) hx hb dL_isWhole_226 (by decide) (by omega) (by omega) (fun h70 => ?_) (fun h70 => ?_)
                  · skip
                    refine nr_const (v := 0) hx hb dL_isWhole_233 rfl ?_
                    exact jj61 0 ls (lv_sub hl [0, 1, 2, 3, 4, 5, 6, 7, 8, 9, 10] rfl) (bb_f (fun q => q h70)).symm
                  · skip
                    refine nr_const (v := 1) hx hb dL_isWhole_229 rfl ?_
                    refine lv_goto (tgt := 234) hx hb dL_isWhole_230 (by decide) ?_
                    exact jj61 1 ls (lv_sub hl [0, 1, 2, 3, 4, 5, 6, 7, 8, 9, 10] rfl) (bb_t h70).symm
          · skip
            refine br_ne0 (tgt := 165) hx hb dL_isWhole_158 (by decide) (by omega) (fun h71 => ?_) (fun h71 => ?_)
            · skip
              refine nr_const (v := 0) hx hb dL_isWhole_165 rfl ?_
              exact jj23 0 ls (lv_sub hl [0, 1, 2, 3, 4, 5, 6, 7, 8, 9] rfl) (bb_f h71).symm
            · skip
              refine nr_const (v := 1) hx hb dL_isWhole_161 rfl ?_
              refine lv_goto (tgt := 166) hx hb dL_isWhole_162 (by decide) ?_
              exact jj23 1 ls (lv_sub hl [0, 1, 2, 3, 4, 5, 6, 7, 8, 9] rfl) (bb_t h71).symm
      · skip
        refine br_ne0 (tgt := 115) hx hb dL_isWhole_108 (by decide) (by omega) (fun h72 => ?_) (fun h72 => ?_)
        · skip
          refine nr_const (v := 0) hx hb dL_isWhole_115 rfl ?_
          exact jj18 0 ls (lv_sub hl [0, 1, 2, 3, 4, 5, 6] rfl) (bb_f h72).symm
        · skip
          refine nr_const (v := 1) hx hb dL_isWhole_111 rfl ?_
          refine lv_goto (tgt := 116) hx hb dL_isWhole_112 (by decide) ?_
          exact jj18 1 ls (lv_sub hl [0, 1, 2, 3, 4, 5, 6] rfl) (bb_t h72).symm
  · skip
    refine lv_aload_n hx hb dL_isWhole_22 rfl (lv_at hl 6 rfl) ?_
    refine lv_iload hx hb dL_isWhole_23 (lv_at hl 0 rfl) ?_
    refine nr_const (v := 4) hx hb dL_isWhole_25 rfl ?_
    refine k_plot ⟨hx, hb, hml, hown, hts⟩ (cwV 2 hts gL_isWhole_X5_plot rfl rfl rfl (by decide +kernel) ⟨Nat.le_of_ble_eq_true rfl, Nat.le_of_ble_eq_true rfl⟩) hK hNW hAA  hO hS hl.1 (Nat.le_of_ble_eq_true rfl) dL_isWhole_26 ⟨Nat.zero_le _, Nat.zero_le _⟩ ?_
    refine nr_top (y := nI (ow M 0 k)) (pl_o (by omega)) ?_
    refine lv_istore (lv' := [(7, .int (nI (ow M 0 k))), (6, .int (nI k)), (5, .int (nI 0)), (4, .int (nI 0)), (3, .int (nI 0)), (2, .int (nI 0)), (1, .int (nI (sm (fun j => bb (ow M 0 j = 7)) k))), (0, .ref c0)]) hx hb dL_isWhole_29 hl (by decide) rfl (fun ls hl => ?_)
    refine lv_iload_n hx hb dL_isWhole_31 rfl (lv_at hl 6 rfl) ?_
    refine lv_iload hx hb dL_isWhole_32 (lv_at hl 0 rfl) ?_
    refine nr_bi (v := 7) hx hb dL_isWhole_34 (by decide +kernel) ?_
    refine join_v (T := Nat) (J := 44) (nL := 13) (fun v => [(7, .int (nI (ow M 0 k))), (6, .int (nI k)), (5, .int (nI 0)), (4, .int (nI 0)), (3, .int (nI 0)), (2, .int (nI 0)), (1, .int (nI (sm (fun j => bb (ow M 0 j = 7)) k))), (0, .ref c0)]) (fun v => [.int (nI v), .int (nI (sm (fun j => bb (ow M 0 j = 7)) k))]) (fun v => v = bb ((ow M 0 k) = 7)) ?_ (fun jj73 => ?_)
    · intro v ls hl hv74
      subst hv74
      refine nr_add hx hb dL_isWhole_44 ?_
      refine lv_istore_n (lv' := [(1, .int (nI ((sm (fun j => bb (ow M 0 j = 7)) k) + (bb ((ow M 0 k) = 7))))), (7, .int (nI (ow M 0 k))), (6, .int (nI k)), (5, .int (nI 0)), (4, .int (nI 0)), (3, .int (nI 0)), (2, .int (nI 0)), (0, .ref c0)]) hx hb dL_isWhole_45 rfl hl (by decide) rfl (fun ls hl => ?_)
      refine lv_iload hx hb dL_isWhole_46 (lv_at hl 1 rfl) ?_
      refine br_lt0 (tgt := 58) hx hb dL_isWhole_48 (by decide) (Nat.lt_trans (ok_ow h0k k (by omega)) (by decide)) ?_
      refine lv_iload hx hb dL_isWhole_51 (lv_at hl 1 rfl) ?_
      refine nr_bi (v := 7) hx hb dL_isWhole_53 (by decide +kernel) ?_
      refine br_ile (tgt := 60) hx hb dL_isWhole_55 (by decide) (Nat.lt_trans (ok_ow h0k k (by omega)) (by decide)) (by decide) (fun h75 => ?_) (fun h75 => ?_)
      · skip
        refine nr_inc (d := 1) (v := k + 1) (lv' := [(6, .int (nI (k + 1))), (1, .int (nI ((sm (fun j => bb (ow M 0 j = 7)) k) + (bb ((ow M 0 k) = 7))))), (7, .int (nI (ow M 0 k))), (5, .int (nI 0)), (4, .int (nI 0)), (3, .int (nI 0)), (2, .int (nI 0)), (0, .ref c0)]) hx hb dL_isWhole_60 hl (k := 2) rfl rfl (by decide) rfl (fun ls hl => ?_)
        refine lv_goto (tgt := 15) hx hb dL_isWhole_63 (by decide) ?_
        exact ih1 (k + 1) ls H locs (lv_sub hl [0, 3, 4, 5, 6, 1, 7] rfl) hO hS (by omega) (by omega)
      · exact absurd (by have := ok_ow h0k k (by omega); omega) h75
    · skip
      refine br_ine (tgt := 43) hx hb dL_isWhole_36 (by decide) (Nat.lt_trans (ok_ow h0k k (by omega)) (by decide)) (by decide) (fun h76 => ?_) (fun h76 => ?_)
      · skip
        refine nr_const (v := 0) hx hb dL_isWhole_43 rfl ?_
        exact jj73 0 ls (lv_sub hl [0, 1, 2, 3, 4, 5, 6, 7] rfl) (bb_f h76).symm
      · skip
        refine nr_const (v := 1) hx hb dL_isWhole_39 rfl ?_
        refine lv_goto (tgt := 44) hx hb dL_isWhole_40 (by decide) ?_
        exact jj73 1 ls (lv_sub hl [0, 1, 2, 3, 4, 5, 6, 7] rfl) (bb_t h76).symm)
