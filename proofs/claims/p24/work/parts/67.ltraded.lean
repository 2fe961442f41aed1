set_option maxHeartbeats 4000000 in
set_option maxRecDepth 100000 in
theorem m_isTraded (l : Launch) (G : gG) (AA : Nat → Prop) (c0 hbd : Nat) (M : Nat → Nat)   (hv : q_iv hbd M) (hnb : hbd < 1000000) : Met l yL_isTraded wsL_isTraded ({ frames := 7, cells := 0, slots := 0, locals := 177 } : Room) (q_PO G AA (q_OB G AA c0 hbd M q_hT) [.ref c0]) (va_Qi (fun (r : Int32) (u : Nat → Nat) => r = nI 1 ∧ (q_iv (hbd + 64) u)) (fun (u : Nat → Nat) (t : State) => (q_OB G AA c0 (hbd + 64) u q_hT) t.heap) AA) 0 0 AA := obM (C := RL) rfl (by decide) rfl (Nat.le_of_ble_eq_true rfl) (fun pX eX sX mX bX meX cX ls hx hb hr hts hown hlk hml hAA hO hK hNW hS hl => by
  have hl : lv_has ls 13 [(0, .ref c0)] := hl
  have h0k := hv.1
  have h201 := hv.2.2.2.1
  have hbt : (bT M).2 ≤ 723975 := bsf_2 (O := ow M 0) h0k 49
  refine lv_aload_n hx hb dL_isTraded_0 rfl (lv_at hl 0 rfl) ?_
  refine nr_const (v := 0) hx hb dL_isTraded_1 rfl ?_
  refine k_bestTrade ⟨hx, hb, hml, hown, hts⟩ (cwV 1 hts gL_isTraded_X5_bestTrade rfl rfl rfl (by decide +kernel) ⟨Nat.le_of_ble_eq_true rfl, Nat.le_of_ble_eq_true rfl⟩) hK hNW hAA  hO hS hl.1 (Nat.le_of_ble_eq_true rfl) dL_isTraded_2 ⟨Nat.zero_le _, Nat.zero_le _⟩ (fun H locs hO hS => ?_)
  have hO : q_OB G AA c0 hbd M q_hT _ := hO
  refine nr_top (y := nbI (bT M).1) (be_0) ?_
  refine lv_istore_n (lv' := [(1, .int (nbI (bT M).1)), (0, .ref c0)]) hx hb dL_isTraded_5 rfl hl (by decide) rfl (fun ls hl => ?_)
  refine lv_aload_n hx hb dL_isTraded_6 rfl (lv_at hl 1 rfl) ?_
  refine nr_const (v := 1) hx hb dL_isTraded_7 rfl ?_
  refine k_bestTrade ⟨hx, hb, hml, hown, hts⟩ (cwV 1 hts gL_isTraded_X5_bestTrade rfl rfl rfl (by decide +kernel) ⟨Nat.le_of_ble_eq_true rfl, Nat.le_of_ble_eq_true rfl⟩) hK hNW hAA  hO hS hl.1 (Nat.le_of_ble_eq_true rfl) dL_isTraded_8 ⟨Nat.zero_le _, Nat.zero_le _⟩ (fun H locs hO hS => ?_)
  have hO : q_OB G AA c0 hbd M q_hT _ := hO
  refine nr_top (y := if (bT M).1 = 0 then -5 else nI (bT M).2) (be_1) ?_
  refine lv_istore_n (lv' := [(2, .int (if (bT M).1 = 0 then -5 else nI (bT M).2)), (1, .int (nbI (bT M).1)), (0, .ref c0)]) hx hb dL_isTraded_11 rfl hl (by decide) rfl (fun ls hl => ?_)
  refine lv_aload_n hx hb dL_isTraded_12 rfl (lv_at hl 2 rfl) ?_
  refine nr_bi (v := 8) hx hb dL_isTraded_13 (by decide +kernel) ?_
  refine k_total ⟨hx, hb, hml, hown, hts⟩ (cwV 1 hts gL_isTraded_X5_total rfl rfl rfl (by decide +kernel) ⟨Nat.le_of_ble_eq_true rfl, Nat.le_of_ble_eq_true rfl⟩) hK hNW hAA (by decide) hO hS hl.1 (Nat.le_of_ble_eq_true rfl) dL_isTraded_15 ⟨Nat.zero_le _, Nat.zero_le _⟩ (fun H locs hO hS => ?_)
  have hO : q_OB G AA c0 hbd M q_hT _ := hO
  refine nr_top (y := nI (M 201)) (to_8) ?_
  refine lv_istore_n (lv' := [(3, .int (nI (M 201))), (2, .int (if (bT M).1 = 0 then -5 else nI (bT M).2)), (1, .int (nbI (bT M).1)), (0, .ref c0)]) hx hb dL_isTraded_18 rfl hl (by decide) rfl (fun ls hl => ?_)
  refine lv_iload_n hx hb dL_isTraded_19 rfl (lv_at hl 2 rfl) ?_
  refine lv_bipush (v := (-5)) hx hb dL_isTraded_20 (by decide +kernel) ?_
  refine lv_icmp_ne (tgt := 56) hx hb dL_isTraded_22 (by decide) (fun h1 => ?_) (fun h1 => ?_)
  · skip
    have hnb2 : ¬ (bT M).1 = 0 := (fun q => absurd ((nbI_5 (Nat.lt_trans (bT_lt M) (by decide))).mpr q) (by assumption))
    rw [if_neg hnb2] at hl
    have hl : lv_has ls 13 [(3, .int (nI (M 201))), (2, .int (nI ((bT M).2))), (1, .int (nbI (bT M).1)), (0, .ref c0)] := hl
    refine lv_bipush (v := (-5)) hx hb dL_isTraded_56 (by decide +kernel) ?_
    refine lv_istore (lv' := [(4, .int (-5)), (3, .int (nI (M 201))), (2, .int (nI ((bT M).2))), (1, .int (nbI (bT M).1)), (0, .ref c0)]) hx hb dL_isTraded_58 hl (by decide) rfl (fun ls hl => ?_)
    refine nr_const (v := 0) hx hb dL_isTraded_60 rfl ?_
    refine lv_istore (lv' := [(5, .int (nI 0)), (4, .int (-5)), (3, .int (nI (M 201))), (2, .int (nI ((bT M).2))), (1, .int (nbI (bT M).1)), (0, .ref c0)]) hx hb dL_isTraded_61 hl (by decide) rfl (fun ls hl => ?_)
    refine nr_const (v := 0) hx hb dL_isTraded_63 rfl ?_
    refine lv_istore (lv' := [(6, .int (nI 0)), (5, .int (nI 0)), (4, .int (-5)), (3, .int (nI (M 201))), (2, .int (nI ((bT M).2))), (1, .int (nbI (bT M).1)), (0, .ref c0)]) hx hb dL_isTraded_64 hl (by decide) rfl (fun ls hl => ?_)
    refine loop_o (T := Nat) (nL := 13) (fun k => k ≤ 49) (fun k => 49 - k) (fun k => [(3, .int (nI (M 201))), (2, .int (nI ((bT M).2))), (1, .int (nbI (bT M).1)), (0, .ref c0), (4, .int (nbI (bsf M (ow M 0) k).1)), (5, .int (nI ((bsf M (ow M 0) k).2))), (6, .int (nI k))]) (fun k => q_OB G AA c0 hbd M q_hT) ?_ 0 (lv_sub hl [3, 4, 5, 6, 2, 1, 0] rfl) hO hS (by omega)
    intro k ls H locs hl hO hS hi3 ih2
    have hi3_0 := hi3
    have hi3_0 : k ≤ 49 := hi3_0
    have hO : q_OB G AA c0 hbd M q_hT _ := hO
    have hl : lv_has ls 13 [(3, .int (nI (M 201))), (2, .int (nI ((bT M).2))), (1, .int (nbI (bT M).1)), (0, .ref c0), (4, .int (nbI (bsf M (ow M 0) k).1)), (5, .int (nI ((bsf M (ow M 0) k).2))), (6, .int (nI k))] := hl
    have hb2 := bsf_2 (O := ow M 0) h0k k
    have hes : es M (swO (ow M 0) (k / 7) (k % 7)) 127 127 ≤ 723975 := es_le h0k
    refine lv_iload hx hb dL_isTraded_66 (lv_at hl 6 rfl) ?_
    refine nr_bi (v := 49) hx hb dL_isTraded_68 (by decide +kernel) ?_
    refine br_ige (tgt := 238) hx hb dL_isTraded_70 (by decide) (by omega) (by decide) (fun h4 => ?_) (fun h4 => ?_)
    · skip
      have e2 : k = 49 := (by omega)
      subst e2
      have hl : lv_has ls 13 [(3, .int (nI (M 201))), (2, .int (nI ((bT M).2))), (1, .int (nbI (bT M).1)), (0, .ref c0), (4, .int (nbI (bsf M (ow M 0) 49).1)), (5, .int (nI ((bsf M (ow M 0) 49).2))), (6, .int (nI 49))] := hl
      have hl : lv_has ls 13 [(3, .int (nI (M 201))), (2, .int (nI ((bT M).2))), (1, .int (nbI (bT M).1)), (0, .ref c0), (4, .int (nbI (bT M).1)), (5, .int (nI ((bT M).2))), (6, .int (nI 49))] := hl
      refine lv_aload_n hx hb dL_isTraded_238 rfl (lv_at hl 3 rfl) ?_
      refine k_settle ⟨hx, hb, hml, hown, hts⟩ (cwV 0 hts gL_isTraded_X5_settle rfl rfl rfl (by decide +kernel) ⟨Nat.le_of_ble_eq_true rfl, Nat.le_of_ble_eq_true rfl⟩) hK hNW hAA hnb2 hv hO hS hl.1 (Nat.le_of_ble_eq_true rfl) dL_isTraded_239 ⟨Nat.zero_le _, Nat.zero_le _⟩ (fun H locs n5 en5 hO hS => ?_)
      have hO : q_OB G AA c0 hbd (sM M n5) (q_hM M) _ := hO
      have hn21 := stq_21 en5
      have hnp := stq_0 en5 hnb2
      have hsv := sM_iv hv en5
      refine lv_istore (lv' := [(6, .int (nI n5)), (3, .int (nI (M 201))), (2, .int (nI ((bT M).2))), (1, .int (nbI (bT M).1)), (0, .ref c0), (4, .int (nbI (bT M).1)), (5, .int (nI ((bT M).2)))]) hx hb dL_isTraded_242 hl (by decide) rfl (fun ls hl => ?_)
      refine lv_iload_n hx hb dL_isTraded_244 rfl (lv_at hl 3 rfl) ?_
      refine lv_iload hx hb dL_isTraded_245 (lv_at hl 5 rfl) ?_
      refine lv_icmp_ne (tgt := 296) hx hb dL_isTraded_247 (by decide) (fun h6 => ?_) (fun h6 => ?_)
      · exact absurd rfl h6
      · skip
        refine lv_iload_n hx hb dL_isTraded_250 rfl (lv_at hl 2 rfl) ?_
        refine lv_iload hx hb dL_isTraded_251 (lv_at hl 6 rfl) ?_
        refine br_ine (tgt := 296) hx hb dL_isTraded_253 (by decide) (by omega) (by omega) (fun h7 => ?_) (fun h7 => ?_)
        · exact absurd rfl h7
        · skip
          refine lv_iload hx hb dL_isTraded_256 (lv_at hl 0 rfl) ?_
          refine br_le0 (tgt := 296) hx hb dL_isTraded_258 (by decide) (by omega) (fun h8 => ?_) (fun h8 => ?_)
          · exact absurd h8 hnp
          · skip
            refine lv_aload_n hx hb dL_isTraded_261 rfl (lv_at hl 4 rfl) ?_
            refine nr_bi (v := 8) hx hb dL_isTraded_262 (by decide +kernel) ?_
            refine k_total ⟨hx, hb, hml, hown, hts⟩ (cwV 1 hts gL_isTraded_X5_total rfl rfl rfl (by decide +kernel) ⟨Nat.le_of_ble_eq_true rfl, Nat.le_of_ble_eq_true rfl⟩) hK hNW hAA (by decide) hO hS hl.1 (Nat.le_of_ble_eq_true rfl) dL_isTraded_264 ⟨Nat.zero_le _, Nat.zero_le _⟩ (fun H locs hO hS => ?_)
            have hO : q_OB G AA c0 hbd (sM M n5) (q_hM M) _ := hO
            refine nr_top (y := nI ((sM M n5) 201)) (to_8) ?_
            refine nr_top (y := nI ((M 201) + n5)) (congrArg nI (sM_201 M n5)) ?_
            refine lv_iload_n hx hb dL_isTraded_267 rfl (lv_at hl 1 rfl) ?_
            refine lv_iload hx hb dL_isTraded_268 (lv_at hl 0 rfl) ?_
            refine nr_add hx hb dL_isTraded_270 ?_
            refine br_ine (tgt := 296) hx hb dL_isTraded_271 (by decide) (by omega) (by omega) (fun h9 => ?_) (fun h9 => ?_)
            · exact absurd rfl h9
            · skip
              refine lv_aload_n hx hb dL_isTraded_274 rfl (lv_at hl 4 rfl) ?_
              refine nr_const (v := 5) hx hb dL_isTraded_275 rfl ?_
              refine k_total ⟨hx, hb, hml, hown, hts⟩ (cwV 1 hts gL_isTraded_X5_total rfl rfl rfl (by decide +kernel) ⟨Nat.le_of_ble_eq_true rfl, Nat.le_of_ble_eq_true rfl⟩) hK hNW hAA (by decide) hO hS hl.1 (Nat.le_of_ble_eq_true rfl) dL_isTraded_276 ⟨Nat.zero_le _, Nat.zero_le _⟩ (fun H locs hO hS => ?_)
              have hO : q_OB G AA c0 hbd (sM M n5) (q_hM M) _ := hO
              refine nr_top (y := nI (td (sM M n5) (ow (sM M n5) 0) 49)) (to_5) ?_
              refine nr_top (y := nI 0) (congrArg nI (sM_td en5)) ?_
              refine br_ne0 (tgt := 296) hx hb dL_isTraded_279 (by decide) (by decide) (fun h10 => ?_) (fun h10 => ?_)
              · exact absurd (by decide) h10
              · skip
                refine lv_aload_n hx hb dL_isTraded_282 rfl (lv_at hl 4 rfl) ?_
                refine nr_const (v := 1) hx hb dL_isTraded_283 rfl ?_
                refine k_bestTrade ⟨hx, hb, hml, hown, hts⟩ (cwV 1 hts gL_isTraded_X5_bestTrade rfl rfl rfl (by decide +kernel) ⟨Nat.le_of_ble_eq_true rfl, Nat.le_of_ble_eq_true rfl⟩) hK hNW hAA  hO hS hl.1 (Nat.le_of_ble_eq_true rfl) dL_isTraded_284 ⟨Nat.zero_le _, Nat.zero_le _⟩ (fun H locs hO hS => ?_)
                have hO : q_OB G AA c0 hbd (sM M n5) (q_hM M) _ := hO
                refine nr_top (y := (-5)) (sM_be en5) ?_
                refine lv_bipush (v := (-5)) hx hb dL_isTraded_287 (by decide +kernel) ?_
                refine lv_icmp_ne (tgt := 296) hx hb dL_isTraded_289 (by decide) (fun h11 => ?_) (fun h11 => ?_)
                · exact absurd rfl h11
                · skip
                  refine nr_const (v := 1) hx hb dL_isTraded_292 rfl ?_
                  refine lv_goto (tgt := 297) hx hb dL_isTraded_293 (by decide) ?_
                  exact obretz (post := fun (r : Int32) (u : Nat → Nat) => r = nI 1 ∧ (q_iv (hbd + 64) u)) (ob := fun (u : Nat → Nat) => q_OB G AA c0 (hbd + 64) u q_hT) hx hb hr hlk hS (sM M n5) (q_OB_T (q_OB_le hO (by omega))) ⟨rfl, q_iv_le hsv (by omega)⟩ dL_isTraded_297
    · skip
      refine lv_iload hx hb dL_isTraded_73 (lv_at hl 6 rfl) ?_
      refine nr_bi (v := 7) hx hb dL_isTraded_75 (by decide +kernel) ?_
      refine nr_div hx hb dL_isTraded_77 (by omega) (by decide) (by decide) ?_
      refine lv_istore (lv' := [(7, .int (nI (k / 7))), (3, .int (nI (M 201))), (2, .int (nI ((bT M).2))), (1, .int (nbI (bT M).1)), (0, .ref c0), (4, .int (nbI (bsf M (ow M 0) k).1)), (5, .int (nI ((bsf M (ow M 0) k).2))), (6, .int (nI k))]) hx hb dL_isTraded_78 hl (by decide) rfl (fun ls hl => ?_)
      refine lv_iload hx hb dL_isTraded_80 (lv_at hl 7 rfl) ?_
      refine nr_bi (v := 7) hx hb dL_isTraded_82 (by decide +kernel) ?_
      refine nr_rem hx hb dL_isTraded_84 (by omega) (by decide) (by decide) ?_
      refine lv_istore (lv' := [(8, .int (nI (k % 7))), (7, .int (nI (k / 7))), (3, .int (nI (M 201))), (2, .int (nI ((bT M).2))), (1, .int (nbI (bT M).1)), (0, .ref c0), (4, .int (nbI (bsf M (ow M 0) k).1)), (5, .int (nI ((bsf M (ow M 0) k).2))), (6, .int (nI k))]) hx hb dL_isTraded_85 hl (by decide) rfl (fun ls hl => ?_)
      refine lv_iload hx hb dL_isTraded_87 (lv_at hl 1 rfl) ?_
      refine lv_iload hx hb dL_isTraded_89 (lv_at hl 0 rfl) ?_
      refine br_ige (tgt := 232) hx hb dL_isTraded_91 (by decide) (by omega) (by omega) (fun h12 => ?_) (fun h12 => ?_)
      · skip
        refine nr_inc (d := 1) (v := k + 1) (lv' := [(6, .int (nI (k + 1))), (8, .int (nI (k % 7))), (7, .int (nI (k / 7))), (3, .int (nI (M 201))), (2, .int (nI ((bT M).2))), (1, .int (nbI (bT M).1)), (0, .ref c0), (4, .int (nbI (bsf M (ow M 0) k).1)), (5, .int (nI ((bsf M (ow M 0) k).2)))]) hx hb dL_isTraded_232 hl (k := 8) rfl rfl (by decide) rfl (fun ls hl => ?_)
        refine lv_goto (tgt := 66) hx hb dL_isTraded_235 (by decide) ?_
        have efx : bsf M (ow M 0) (k + 1) = bsf M (ow M 0) k := bsf_no (fun q => q.1 (by assumption))
        exact ih2 (k + 1) ls H locs (by show lv_has ls 13 [(3, .int (nI (M 201))), (2, .int (nI ((bT M).2))), (1, .int (nbI (bT M).1)), (0, .ref c0), (4, .int (nbI (bsf M (ow M 0) (k + 1)).1)), (5, .int (nI ((bsf M (ow M 0) (k + 1)).2))), (6, .int (nI (k + 1)))]; rw [efx]; exact lv_sub hl [3, 4, 5, 6, 7, 8, 0] rfl) hO hS (by omega) (by omega)
      · skip
        have hrs := rs_lt M (ow M 0) (k / 7) (k % 7)
        have hs1 : sh M (ow M 0) (k / 7) (k / 7) ≤ 7776 := sh_le h0k (by omega)
        have hs2 : sh M (ow M 0) (k % 7) (k % 7) ≤ 7776 := sh_le h0k (by omega)
        have hs3 : sh M (ow M 0) (k / 7) (k % 7) ≤ 7776 := sh_le h0k (by omega)
        have hs4 : sh M (ow M 0) (k % 7) (k / 7) ≤ 7776 := sh_le h0k (by omega)
        refine lv_aload_n hx hb dL_isTraded_94 rfl (lv_at hl 5 rfl) ?_
        refine lv_iload hx hb dL_isTraded_95 (lv_at hl 1 rfl) ?_
        refine lv_iload hx hb dL_isTraded_97 (lv_at hl 0 rfl) ?_
        refine nr_const (v := 4) hx hb dL_isTraded_99 rfl ?_
        refine k_pair ⟨hx, hb, hml, hown, hts⟩ (cwV 3 hts gL_isTraded_X5_pair rfl rfl rfl (by decide +kernel) ⟨Nat.le_of_ble_eq_true rfl, Nat.le_of_ble_eq_true rfl⟩) hK hNW hAA  hO hS hl.1 (Nat.le_of_ble_eq_true rfl) dL_isTraded_100 ⟨Nat.zero_le _, Nat.zero_le _⟩ (fun H locs hO hS => ?_)
        have hO : q_OB G AA c0 hbd M q_hT _ := hO
        refine nr_top (y := nI (rs M (ow M 0) (k / 7) (k % 7))) (pa_4 (by omega) (by omega) (by omega)) ?_
        refine br_ne0 (tgt := 232) hx hb dL_isTraded_103 (by decide) (by omega) (fun h13 => ?_) (fun h13 => ?_)
        · skip
          refine nr_inc (d := 1) (v := k + 1) (lv' := [(6, .int (nI (k + 1))), (8, .int (nI (k % 7))), (7, .int (nI (k / 7))), (3, .int (nI (M 201))), (2, .int (nI ((bT M).2))), (1, .int (nbI (bT M).1)), (0, .ref c0), (4, .int (nbI (bsf M (ow M 0) k).1)), (5, .int (nI ((bsf M (ow M 0) k).2)))]) hx hb dL_isTraded_232 hl (k := 8) rfl rfl (by decide) rfl (fun ls hl => ?_)
          refine lv_goto (tgt := 66) hx hb dL_isTraded_235 (by decide) ?_
          have efx : bsf M (ow M 0) (k + 1) = bsf M (ow M 0) k := bsf_no (fun q => absurd q.2 (by assumption))
          exact ih2 (k + 1) ls H locs (by show lv_has ls 13 [(3, .int (nI (M 201))), (2, .int (nI ((bT M).2))), (1, .int (nbI (bT M).1)), (0, .ref c0), (4, .int (nbI (bsf M (ow M 0) (k + 1)).1)), (5, .int (nI ((bsf M (ow M 0) (k + 1)).2))), (6, .int (nI (k + 1)))]; rw [efx]; exact lv_sub hl [3, 4, 5, 6, 7, 8, 0] rfl) hO hS (by omega) (by omega)
        · skip
          have hr0 := rs_0 (M := M) (O := ow M 0) (c := k / 7) (d := k % 7) (by assumption)
          refine lv_aload_n hx hb dL_isTraded_106 rfl (lv_at hl 5 rfl) ?_
          refine lv_iload hx hb dL_isTraded_107 (lv_at hl 1 rfl) ?_
          refine nr_const (v := 5) hx hb dL_isTraded_109 rfl ?_
          refine k_cousin ⟨hx, hb, hml, hown, hts⟩ (cwV 2 hts gL_isTraded_X5_cousin rfl rfl rfl (by decide +kernel) ⟨Nat.le_of_ble_eq_true rfl, Nat.le_of_ble_eq_true rfl⟩) hK hNW hAA  hO hS hl.1 (Nat.le_of_ble_eq_true rfl) dL_isTraded_110 ⟨Nat.zero_le _, Nat.zero_le _⟩ (fun H locs hO hS => ?_)
          have hO : q_OB G AA c0 hbd M q_hT _ := hO
          refine nr_top (y := nI (sh M (ow M 0) (k / 7) (k / 7))) (cz_5 (by omega)) ?_
          refine lv_istore (lv' := [(9, .int (nI (sh M (ow M 0) (k / 7) (k / 7)))), (8, .int (nI (k % 7))), (7, .int (nI (k / 7))), (3, .int (nI (M 201))), (2, .int (nI ((bT M).2))), (1, .int (nbI (bT M).1)), (0, .ref c0), (4, .int (nbI (bsf M (ow M 0) k).1)), (5, .int (nI ((bsf M (ow M 0) k).2))), (6, .int (nI k))]) hx hb dL_isTraded_113 hl (by decide) rfl (fun ls hl => ?_)
          refine lv_aload_n hx hb dL_isTraded_115 rfl (lv_at hl 6 rfl) ?_
          refine lv_iload hx hb dL_isTraded_116 (lv_at hl 1 rfl) ?_
          refine nr_const (v := 5) hx hb dL_isTraded_118 rfl ?_
          refine k_cousin ⟨hx, hb, hml, hown, hts⟩ (cwV 2 hts gL_isTraded_X5_cousin rfl rfl rfl (by decide +kernel) ⟨Nat.le_of_ble_eq_true rfl, Nat.le_of_ble_eq_true rfl⟩) hK hNW hAA  hO hS hl.1 (Nat.le_of_ble_eq_true rfl) dL_isTraded_119 ⟨Nat.zero_le _, Nat.zero_le _⟩ (fun H locs hO hS => ?_)
          have hO : q_OB G AA c0 hbd M q_hT _ := hO
          refine nr_top (y := nI (sh M (ow M 0) (k % 7) (k % 7))) (cz_5 (by omega)) ?_
          refine lv_istore (lv' := [(10, .int (nI (sh M (ow M 0) (k % 7) (k % 7)))), (9, .int (nI (sh M (ow M 0) (k / 7) (k / 7)))), (8, .int (nI (k % 7))), (7, .int (nI (k / 7))), (3, .int (nI (M 201))), (2, .int (nI ((bT M).2))), (1, .int (nbI (bT M).1)), (0, .ref c0), (4, .int (nbI (bsf M (ow M 0) k).1)), (5, .int (nI ((bsf M (ow M 0) k).2))), (6, .int (nI k))]) hx hb dL_isTraded_122 hl (by decide) rfl (fun ls hl => ?_)
          refine lv_aload_n hx hb dL_isTraded_124 rfl (lv_at hl 7 rfl) ?_
          refine lv_iload hx hb dL_isTraded_125 (lv_at hl 2 rfl) ?_
          refine lv_iload hx hb dL_isTraded_127 (lv_at hl 3 rfl) ?_
          refine k_trade ⟨hx, hb, hml, hown, hts⟩ (cwV 2 hts gL_isTraded_X5_trade rfl rfl rfl (by decide +kernel) ⟨Nat.le_of_ble_eq_true rfl, Nat.le_of_ble_eq_true rfl⟩) hK hNW hAA (by omega) (by omega) (by omega) (rs_sy (by assumption)) hv hO hS hl.1 (Nat.le_of_ble_eq_true rfl) dL_isTraded_129 ⟨Nat.zero_le _, Nat.zero_le _⟩ (fun H locs hO hS => ?_)
          have hO : q_OB G AA c0 hbd (tM M (k % 7) (k / 7)) (q_hM M) _ := hO
          refine nr_top (y := nI (es M (swO (ow M 0) (k / 7) (k % 7)) 127 127)) (congrArg nI (sw_c2 M (k % 7) (k / 7))) ?_
          refine lv_istore (lv' := [(11, .int (nI (es M (swO (ow M 0) (k / 7) (k % 7)) 127 127))), (10, .int (nI (sh M (ow M 0) (k % 7) (k % 7)))), (9, .int (nI (sh M (ow M 0) (k / 7) (k / 7)))), (8, .int (nI (k % 7))), (7, .int (nI (k / 7))), (3, .int (nI (M 201))), (2, .int (nI ((bT M).2))), (1, .int (nbI (bT M).1)), (0, .ref c0), (4, .int (nbI (bsf M (ow M 0) k).1)), (5, .int (nI ((bsf M (ow M 0) k).2))), (6, .int (nI k))]) hx hb dL_isTraded_132 hl (by decide) rfl (fun ls hl => ?_)
          refine lv_iload hx hb dL_isTraded_134 (lv_at hl 9 rfl) ?_
          refine lv_bipush (v := (-5)) hx hb dL_isTraded_136 (by decide +kernel) ?_
          refine lv_icmp_eq (tgt := 148) hx hb dL_isTraded_138 (by decide) (fun h14 => ?_) (fun h14 => ?_)
          · skip
            refine nr_const (v := 1) hx hb dL_isTraded_148 rfl ?_
            refine lv_goto (tgt := 153) hx hb dL_isTraded_149 (by decide) ?_
            refine lv_istore (lv' := [(12, .int (nI 1)), (11, .int (nI (es M (swO (ow M 0) (k / 7) (k % 7)) 127 127))), (10, .int (nI (sh M (ow M 0) (k % 7) (k % 7)))), (9, .int (nI (sh M (ow M 0) (k / 7) (k / 7)))), (8, .int (nI (k % 7))), (7, .int (nI (k / 7))), (3, .int (nI (M 201))), (2, .int (nI ((bT M).2))), (1, .int (nbI (bT M).1)), (0, .ref c0), (4, .int (nbI (bsf M (ow M 0) k).1)), (5, .int (nI ((bsf M (ow M 0) k).2))), (6, .int (nI k))]) hx hb dL_isTraded_153 hl (by decide) rfl (fun ls hl => ?_)
            refine lv_iload hx hb dL_isTraded_155 (lv_at hl 0 rfl) ?_
            refine br_eq0 (tgt := 171) hx hb dL_isTraded_157 (by decide) (by decide) (fun h15 => ?_) (fun h15 => ?_)
            · exact absurd h15 (by decide)
            · skip
              refine nr_bi (v := 10) hx hb dL_isTraded_160 (by decide +kernel) ?_
              refine lv_iload hx hb dL_isTraded_162 (lv_at hl 5 rfl) ?_
              refine nr_mul hx hb dL_isTraded_164 ?_
              refine lv_iload hx hb dL_isTraded_165 (lv_at hl 4 rfl) ?_
              refine nr_add hx hb dL_isTraded_167 ?_
              refine lv_goto (tgt := 173) hx hb dL_isTraded_168 (by decide) ?_
              refine lv_istore (lv' := [(4, .int (nI ((10 * (k / 7)) + (k % 7)))), (12, .int (nI 1)), (11, .int (nI (es M (swO (ow M 0) (k / 7) (k % 7)) 127 127))), (10, .int (nI (sh M (ow M 0) (k % 7) (k % 7)))), (9, .int (nI (sh M (ow M 0) (k / 7) (k / 7)))), (8, .int (nI (k % 7))), (7, .int (nI (k / 7))), (3, .int (nI (M 201))), (2, .int (nI ((bT M).2))), (1, .int (nbI (bT M).1)), (0, .ref c0), (5, .int (nI ((bsf M (ow M 0) k).2))), (6, .int (nI k))]) hx hb dL_isTraded_173 hl (by decide) rfl (fun ls hl => ?_)
              refine lv_iload hx hb dL_isTraded_175 (lv_at hl 1 rfl) ?_
              refine br_eq0 (tgt := 185) hx hb dL_isTraded_177 (by decide) (by decide) (fun h16 => ?_) (fun h16 => ?_)
              · exact absurd h16 (by decide)
              · skip
                refine lv_iload hx hb dL_isTraded_180 (lv_at hl 2 rfl) ?_
                refine lv_goto (tgt := 187) hx hb dL_isTraded_182 (by decide) ?_
                refine lv_istore (lv' := [(5, .int (nI (es M (swO (ow M 0) (k / 7) (k % 7)) 127 127))), (4, .int (nI ((10 * (k / 7)) + (k % 7)))), (12, .int (nI 1)), (11, .int (nI (es M (swO (ow M 0) (k / 7) (k % 7)) 127 127))), (10, .int (nI (sh M (ow M 0) (k % 7) (k % 7)))), (9, .int (nI (sh M (ow M 0) (k / 7) (k / 7)))), (8, .int (nI (k % 7))), (7, .int (nI (k / 7))), (3, .int (nI (M 201))), (2, .int (nI ((bT M).2))), (1, .int (nbI (bT M).1)), (0, .ref c0), (6, .int (nI k))]) hx hb dL_isTraded_187 hl (by decide) rfl (fun ls hl => ?_)
                refine lv_iload hx hb dL_isTraded_189 (lv_at hl 3 rfl) ?_
                refine lv_aload_n hx hb dL_isTraded_191 rfl (lv_at hl 11 rfl) ?_
                refine nr_const (v := 3) hx hb dL_isTraded_192 rfl ?_
                refine k_total ⟨hx, hb, hml, hown, hts⟩ (cwV 1 hts gL_isTraded_X5_total rfl rfl rfl (by decide +kernel) ⟨Nat.le_of_ble_eq_true rfl, Nat.le_of_ble_eq_true rfl⟩) hK hNW hAA (by decide) hO hS hl.1 (Nat.le_of_ble_eq_true rfl) dL_isTraded_193 ⟨Nat.zero_le _, Nat.zero_le _⟩ (fun H locs hO hS => ?_)
                have hO : q_OB G AA c0 hbd (tM M (k % 7) (k / 7)) (q_hM M) _ := hO
                refine nr_top (y := nI (es (tM M (k % 7) (k / 7)) (ow (tM M (k % 7) (k / 7)) 0) 127 127)) (to_3) ?_
                refine nr_top (y := nI (es M (swO (ow M 0) (k / 7) (k % 7)) 127 127)) (congrArg nI (tM_es.trans (sw_c2 M (k % 7) (k / 7)))) ?_
                refine br_ine (tgt := 230) hx hb dL_isTraded_196 (by decide) (by omega) (by omega) (fun h17 => ?_) (fun h17 => ?_)
                · exact absurd rfl h17
                · skip
                  refine lv_aload_n hx hb dL_isTraded_199 rfl (lv_at hl 11 rfl) ?_
                  refine lv_iload hx hb dL_isTraded_200 (lv_at hl 7 rfl) ?_
                  refine nr_const (v := 5) hx hb dL_isTraded_202 rfl ?_
                  refine k_cousin ⟨hx, hb, hml, hown, hts⟩ (cwV 2 hts gL_isTraded_X5_cousin rfl rfl rfl (by decide +kernel) ⟨Nat.le_of_ble_eq_true rfl, Nat.le_of_ble_eq_true rfl⟩) hK hNW hAA  hO hS hl.1 (Nat.le_of_ble_eq_true rfl) dL_isTraded_203 ⟨Nat.zero_le _, Nat.zero_le _⟩ (fun H locs hO hS => ?_)
                  have hO : q_OB G AA c0 hbd (tM M (k % 7) (k / 7)) (q_hM M) _ := hO
                  refine nr_top (y := nI (sh (tM M (k % 7) (k / 7)) (ow (tM M (k % 7) (k / 7)) 0) (k / 7) (k / 7))) (cz_5 (by omega)) ?_
                  refine nr_top (y := nI (sh M (ow M 0) (k / 7) (k % 7))) (congrArg nI (tM_s2 (by omega))) ?_
                  refine lv_iload hx hb dL_isTraded_206 (lv_at hl 5 rfl) ?_
                  refine br_ile (tgt := 230) hx hb dL_isTraded_208 (by decide) (by omega) (by omega) (fun h18 => ?_) (fun h18 => ?_)
                  · exact absurd h18 (by omega)
                  · skip
                    refine lv_aload_n hx hb dL_isTraded_211 rfl (lv_at hl 11 rfl) ?_
                    refine lv_iload hx hb dL_isTraded_212 (lv_at hl 6 rfl) ?_
                    refine nr_const (v := 5) hx hb dL_isTraded_214 rfl ?_
                    refine k_cousin ⟨hx, hb, hml, hown, hts⟩ (cwV 2 hts gL_isTraded_X5_cousin rfl rfl rfl (by decide +kernel) ⟨Nat.le_of_ble_eq_true rfl, Nat.le_of_ble_eq_true rfl⟩) hK hNW hAA  hO hS hl.1 (Nat.le_of_ble_eq_true rfl) dL_isTraded_215 ⟨Nat.zero_le _, Nat.zero_le _⟩ (fun H locs hO hS => ?_)
                    have hO : q_OB G AA c0 hbd (tM M (k % 7) (k / 7)) (q_hM M) _ := hO
                    refine nr_top (y := nI (sh (tM M (k % 7) (k / 7)) (ow (tM M (k % 7) (k / 7)) 0) (k % 7) (k % 7))) (cz_5 (by omega)) ?_
                    refine nr_top (y := nI (sh M (ow M 0) (k % 7) (k / 7))) (congrArg nI (tM_s1 (by omega))) ?_
                    refine lv_iload hx hb dL_isTraded_218 (lv_at hl 4 rfl) ?_
                    refine br_ile (tgt := 230) hx hb dL_isTraded_220 (by decide) (by omega) (by omega) (fun h19 => ?_) (fun h19 => ?_)
                    · exact absurd h19 (by omega)
                    · skip
                      refine lv_aload_n hx hb dL_isTraded_223 rfl (lv_at hl 11 rfl) ?_
                      refine k_undo ⟨hx, hb, hml, hown, hts⟩ (cwV 0 hts gL_isTraded_X5_undo rfl rfl rfl (by decide +kernel) ⟨Nat.le_of_ble_eq_true rfl, Nat.le_of_ble_eq_true rfl⟩) hK hNW hAA  hO hS hl.1 (Nat.le_of_ble_eq_true rfl) dL_isTraded_224 ⟨Nat.zero_le _, Nat.zero_le _⟩ (fun H locs n20 en20 hO hS => ?_)
                      have hO : q_OB G AA c0 hbd M q_hT _ := hO
                      refine br_ge0 (tgt := 232) hx hb dL_isTraded_227 (by decide) (by omega) ?_
                      refine nr_inc (d := 1) (v := k + 1) (lv' := [(6, .int (nI (k + 1))), (5, .int (nI (es M (swO (ow M 0) (k / 7) (k % 7)) 127 127))), (4, .int (nI ((10 * (k / 7)) + (k % 7)))), (12, .int (nI 1)), (11, .int (nI (es M (swO (ow M 0) (k / 7) (k % 7)) 127 127))), (10, .int (nI (sh M (ow M 0) (k % 7) (k % 7)))), (9, .int (nI (sh M (ow M 0) (k / 7) (k / 7)))), (8, .int (nI (k % 7))), (7, .int (nI (k / 7))), (3, .int (nI (M 201))), (2, .int (nI ((bT M).2))), (1, .int (nbI (bT M).1)), (0, .ref c0)]) hx hb dL_isTraded_232 hl (k := 12) rfl rfl (by decide) rfl (fun ls hl => ?_)
                      refine lv_goto (tgt := 66) hx hb dL_isTraded_235 (by decide) ?_
                      obtain ⟨efx1, efx2⟩ := bsf_ye (M := M) (O := ow M 0) (k := k) (by assumption) (by assumption) (by first | exact Or.inl (by assumption) | exact Or.inr (by assumption)) (by omega)
                      exact ih2 (k + 1) ls H locs (by show lv_has ls 13 [(3, .int (nI (M 201))), (2, .int (nI ((bT M).2))), (1, .int (nbI (bT M).1)), (0, .ref c0), (4, .int (nbI (bsf M (ow M 0) (k + 1)).1)), (5, .int (nI ((bsf M (ow M 0) (k + 1)).2))), (6, .int (nI (k + 1)))]; rw [efx1, efx2]; exact lv_sub hl [9, 10, 11, 12, 2, 1, 0] rfl) hO hS (by omega) (by omega)
          · skip
            refine lv_iload hx hb dL_isTraded_141 (lv_at hl 0 rfl) ?_
            refine lv_iload hx hb dL_isTraded_143 (lv_at hl 10 rfl) ?_
            refine br_ige (tgt := 152) hx hb dL_isTraded_145 (by decide) (by omega) (by omega) (fun h21 => ?_) (fun h21 => ?_)
            · skip
              refine nr_const (v := 0) hx hb dL_isTraded_152 rfl ?_
              refine lv_istore (lv' := [(12, .int (nI 0)), (11, .int (nI (es M (swO (ow M 0) (k / 7) (k % 7)) 127 127))), (10, .int (nI (sh M (ow M 0) (k % 7) (k % 7)))), (9, .int (nI (sh M (ow M 0) (k / 7) (k / 7)))), (8, .int (nI (k % 7))), (7, .int (nI (k / 7))), (3, .int (nI (M 201))), (2, .int (nI ((bT M).2))), (1, .int (nbI (bT M).1)), (0, .ref c0), (4, .int (nbI (bsf M (ow M 0) k).1)), (5, .int (nI ((bsf M (ow M 0) k).2))), (6, .int (nI k))]) hx hb dL_isTraded_153 hl (by decide) rfl (fun ls hl => ?_)
              refine lv_iload hx hb dL_isTraded_155 (lv_at hl 0 rfl) ?_
              refine br_eq0 (tgt := 171) hx hb dL_isTraded_157 (by decide) (by decide) (fun h22 => ?_) (fun h22 => ?_)
              · skip
                refine lv_iload hx hb dL_isTraded_171 (lv_at hl 10 rfl) ?_
                refine lv_istore (lv' := [(4, .int (nbI (bsf M (ow M 0) k).1)), (12, .int (nI 0)), (11, .int (nI (es M (swO (ow M 0) (k / 7) (k % 7)) 127 127))), (10, .int (nI (sh M (ow M 0) (k % 7) (k % 7)))), (9, .int (nI (sh M (ow M 0) (k / 7) (k / 7)))), (8, .int (nI (k % 7))), (7, .int (nI (k / 7))), (3, .int (nI (M 201))), (2, .int (nI ((bT M).2))), (1, .int (nbI (bT M).1)), (0, .ref c0), (5, .int (nI ((bsf M (ow M 0) k).2))), (6, .int (nI k))]) hx hb dL_isTraded_173 hl (by decide) rfl (fun ls hl => ?_)
                refine lv_iload hx hb dL_isTraded_175 (lv_at hl 1 rfl) ?_
                refine br_eq0 (tgt := 185) hx hb dL_isTraded_177 (by decide) (by decide) (fun h23 => ?_) (fun h23 => ?_)
                · skip
                  refine lv_iload hx hb dL_isTraded_185 (lv_at hl 11 rfl) ?_
                  refine lv_istore (lv' := [(5, .int (nI ((bsf M (ow M 0) k).2))), (4, .int (nbI (bsf M (ow M 0) k).1)), (12, .int (nI 0)), (11, .int (nI (es M (swO (ow M 0) (k / 7) (k % 7)) 127 127))), (10, .int (nI (sh M (ow M 0) (k % 7) (k % 7)))), (9, .int (nI (sh M (ow M 0) (k / 7) (k / 7)))), (8, .int (nI (k % 7))), (7, .int (nI (k / 7))), (3, .int (nI (M 201))), (2, .int (nI ((bT M).2))), (1, .int (nbI (bT M).1)), (0, .ref c0), (6, .int (nI k))]) hx hb dL_isTraded_187 hl (by decide) rfl (fun ls hl => ?_)
                  refine lv_iload hx hb dL_isTraded_189 (lv_at hl 3 rfl) ?_
                  refine lv_aload_n hx hb dL_isTraded_191 rfl (lv_at hl 11 rfl) ?_
                  refine nr_const (v := 3) hx hb dL_isTraded_192 rfl ?_
                  refine k_total ⟨hx, hb, hml, hown, hts⟩ (cwV 1 hts gL_isTraded_X5_total rfl rfl rfl (by decide +kernel) ⟨Nat.le_of_ble_eq_true rfl, Nat.le_of_ble_eq_true rfl⟩) hK hNW hAA (by decide) hO hS hl.1 (Nat.le_of_ble_eq_true rfl) dL_isTraded_193 ⟨Nat.zero_le _, Nat.zero_le _⟩ (fun H locs hO hS => ?_)
                  have hO : q_OB G AA c0 hbd (tM M (k % 7) (k / 7)) (q_hM M) _ := hO
                  refine nr_top (y := nI (es (tM M (k % 7) (k / 7)) (ow (tM M (k % 7) (k / 7)) 0) 127 127)) (to_3) ?_
                  refine nr_top (y := nI (es M (swO (ow M 0) (k / 7) (k % 7)) 127 127)) (congrArg nI (tM_es.trans (sw_c2 M (k % 7) (k / 7)))) ?_
                  refine br_ine (tgt := 230) hx hb dL_isTraded_196 (by decide) (by omega) (by omega) (fun h24 => ?_) (fun h24 => ?_)
                  · exact absurd rfl h24
                  · skip
                    refine lv_aload_n hx hb dL_isTraded_199 rfl (lv_at hl 11 rfl) ?_
                    refine lv_iload hx hb dL_isTraded_200 (lv_at hl 7 rfl) ?_
                    refine nr_const (v := 5) hx hb dL_isTraded_202 rfl ?_
                    refine k_cousin ⟨hx, hb, hml, hown, hts⟩ (cwV 2 hts gL_isTraded_X5_cousin rfl rfl rfl (by decide +kernel) ⟨Nat.le_of_ble_eq_true rfl, Nat.le_of_ble_eq_true rfl⟩) hK hNW hAA  hO hS hl.1 (Nat.le_of_ble_eq_true rfl) dL_isTraded_203 ⟨Nat.zero_le _, Nat.zero_le _⟩ (fun H locs hO hS => ?_)
                    have hO : q_OB G AA c0 hbd (tM M (k % 7) (k / 7)) (q_hM M) _ := hO
                    refine nr_top (y := nI (sh (tM M (k % 7) (k / 7)) (ow (tM M (k % 7) (k / 7)) 0) (k / 7) (k / 7))) (cz_5 (by omega)) ?_
                    refine nr_top (y := nI (sh M (ow M 0) (k / 7) (k % 7))) (congrArg nI (tM_s2 (by omega))) ?_
                    refine lv_iload hx hb dL_isTraded_206 (lv_at hl 5 rfl) ?_
                    refine br_ile (tgt := 230) hx hb dL_isTraded_208 (by decide) (by omega) (by omega) (fun h25 => ?_) (fun h25 => ?_)
                    · exact absurd h25 (by omega)
                    · skip
                      refine lv_aload_n hx hb dL_isTraded_211 rfl (lv_at hl 11 rfl) ?_
                      refine lv_iload hx hb dL_isTraded_212 (lv_at hl 6 rfl) ?_
                      refine nr_const (v := 5) hx hb dL_isTraded_214 rfl ?_
                      refine k_cousin ⟨hx, hb, hml, hown, hts⟩ (cwV 2 hts gL_isTraded_X5_cousin rfl rfl rfl (by decide +kernel) ⟨Nat.le_of_ble_eq_true rfl, Nat.le_of_ble_eq_true rfl⟩) hK hNW hAA  hO hS hl.1 (Nat.le_of_ble_eq_true rfl) dL_isTraded_215 ⟨Nat.zero_le _, Nat.zero_le _⟩ (fun H locs hO hS => ?_)
                      have hO : q_OB G AA c0 hbd (tM M (k % 7) (k / 7)) (q_hM M) _ := hO
                      refine nr_top (y := nI (sh (tM M (k % 7) (k / 7)) (ow (tM M (k % 7) (k / 7)) 0) (k % 7) (k % 7))) (cz_5 (by omega)) ?_
                      refine nr_top (y := nI (sh M (ow M 0) (k % 7) (k / 7))) (congrArg nI (tM_s1 (by omega))) ?_
                      refine lv_iload hx hb dL_isTraded_218 (lv_at hl 4 rfl) ?_
                      refine br_ile (tgt := 230) hx hb dL_isTraded_220 (by decide) (by omega) (by omega) (fun h26 => ?_) (fun h26 => ?_)
                      · exact absurd h26 (by omega)
                      · skip
                        refine lv_aload_n hx hb dL_isTraded_223 rfl (lv_at hl 11 rfl) ?_
                        refine k_undo ⟨hx, hb, hml, hown, hts⟩ (cwV 0 hts gL_isTraded_X5_undo rfl rfl rfl (by decide +kernel) ⟨Nat.le_of_ble_eq_true rfl, Nat.le_of_ble_eq_true rfl⟩) hK hNW hAA  hO hS hl.1 (Nat.le_of_ble_eq_true rfl) dL_isTraded_224 ⟨Nat.zero_le _, Nat.zero_le _⟩ (fun H locs n27 en27 hO hS => ?_)
                        have hO : q_OB G AA c0 hbd M q_hT _ := hO
                        refine br_ge0 (tgt := 232) hx hb dL_isTraded_227 (by decide) (by omega) ?_
                        refine nr_inc (d := 1) (v := k + 1) (lv' := [(6, .int (nI (k + 1))), (5, .int (nI ((bsf M (ow M 0) k).2))), (4, .int (nbI (bsf M (ow M 0) k).1)), (12, .int (nI 0)), (11, .int (nI (es M (swO (ow M 0) (k / 7) (k % 7)) 127 127))), (10, .int (nI (sh M (ow M 0) (k % 7) (k % 7)))), (9, .int (nI (sh M (ow M 0) (k / 7) (k / 7)))), (8, .int (nI (k % 7))), (7, .int (nI (k / 7))), (3, .int (nI (M 201))), (2, .int (nI ((bT M).2))), (1, .int (nbI (bT M).1)), (0, .ref c0)]) hx hb dL_isTraded_232 hl (k := 12) rfl rfl (by decide) rfl (fun ls hl => ?_)
                        refine lv_goto (tgt := 66) hx hb dL_isTraded_235 (by decide) ?_
                        have efx : bsf M (ow M 0) (k + 1) = bsf M (ow M 0) k := bsf_ke (by assumption) (by assumption)
                        exact ih2 (k + 1) ls H locs (by show lv_has ls 13 [(3, .int (nI (M 201))), (2, .int (nI ((bT M).2))), (1, .int (nbI (bT M).1)), (0, .ref c0), (4, .int (nbI (bsf M (ow M 0) (k + 1)).1)), (5, .int (nI ((bsf M (ow M 0) (k + 1)).2))), (6, .int (nI (k + 1)))]; rw [efx]; exact lv_sub hl [9, 10, 11, 12, 2, 1, 0] rfl) hO hS (by omega) (by omega)
                · exact absurd (by decide) h23
              · exact absurd (by decide) h22
            · skip
              refine nr_const (v := 1) hx hb dL_isTraded_148 rfl ?_
              refine lv_goto (tgt := 153) hx hb dL_isTraded_149 (by decide) ?_
              refine lv_istore (lv' := [(12, .int (nI 1)), (11, .int (nI (es M (swO (ow M 0) (k / 7) (k % 7)) 127 127))), (10, .int (nI (sh M (ow M 0) (k % 7) (k % 7)))), (9, .int (nI (sh M (ow M 0) (k / 7) (k / 7)))), (8, .int (nI (k % 7))), (7, .int (nI (k / 7))), (3, .int (nI (M 201))), (2, .int (nI ((bT M).2))), (1, .int (nbI (bT M).1)), (0, .ref c0), (4, .int (nbI (bsf M (ow M 0) k).1)), (5, .int (nI ((bsf M (ow M 0) k).2))), (6, .int (nI k))]) hx hb dL_isTraded_153 hl (by decide) rfl (fun ls hl => ?_)
              refine lv_iload hx hb dL_isTraded_155 (lv_at hl 0 rfl) ?_
              refine br_eq0 (tgt := 171) hx hb dL_isTraded_157 (by decide) (by decide) (fun h28 => ?_) (fun h28 => ?_)
              · exact absurd h28 (by decide)
              · skip
                refine nr_bi (v := 10) hx hb dL_isTraded_160 (by decide +kernel) ?_
                refine lv_iload hx hb dL_isTraded_162 (lv_at hl 5 rfl) ?_
                refine nr_mul hx hb dL_isTraded_164 ?_
                refine lv_iload hx hb dL_isTraded_165 (lv_at hl 4 rfl) ?_
                refine nr_add hx hb dL_isTraded_167 ?_
                refine lv_goto (tgt := 173) hx hb dL_isTraded_168 (by decide) ?_
                refine lv_istore (lv' := [(4, .int (nI ((10 * (k / 7)) + (k % 7)))), (12, .int (nI 1)), (11, .int (nI (es M (swO (ow M 0) (k / 7) (k % 7)) 127 127))), (10, .int (nI (sh M (ow M 0) (k % 7) (k % 7)))), (9, .int (nI (sh M (ow M 0) (k / 7) (k / 7)))), (8, .int (nI (k % 7))), (7, .int (nI (k / 7))), (3, .int (nI (M 201))), (2, .int (nI ((bT M).2))), (1, .int (nbI (bT M).1)), (0, .ref c0), (5, .int (nI ((bsf M (ow M 0) k).2))), (6, .int (nI k))]) hx hb dL_isTraded_173 hl (by decide) rfl (fun ls hl => ?_)
                refine lv_iload hx hb dL_isTraded_175 (lv_at hl 1 rfl) ?_
                refine br_eq0 (tgt := 185) hx hb dL_isTraded_177 (by decide) (by decide) (fun h29 => ?_) (fun h29 => ?_)
                · exact absurd h29 (by decide)
                · skip
                  refine lv_iload hx hb dL_isTraded_180 (lv_at hl 2 rfl) ?_
                  refine lv_goto (tgt := 187) hx hb dL_isTraded_182 (by decide) ?_
                  refine lv_istore (lv' := [(5, .int (nI (es M (swO (ow M 0) (k / 7) (k % 7)) 127 127))), (4, .int (nI ((10 * (k / 7)) + (k % 7)))), (12, .int (nI 1)), (11, .int (nI (es M (swO (ow M 0) (k / 7) (k % 7)) 127 127))), (10, .int (nI (sh M (ow M 0) (k % 7) (k % 7)))), (9, .int (nI (sh M (ow M 0) (k / 7) (k / 7)))), (8, .int (nI (k % 7))), (7, .int (nI (k / 7))), (3, .int (nI (M 201))), (2, .int (nI ((bT M).2))), (1, .int (nbI (bT M).1)), (0, .ref c0), (6, .int (nI k))]) hx hb dL_isTraded_187 hl (by decide) rfl (fun ls hl => ?_)
                  refine lv_iload hx hb dL_isTraded_189 (lv_at hl 3 rfl) ?_
                  refine lv_aload_n hx hb dL_isTraded_191 rfl (lv_at hl 11 rfl) ?_
                  refine nr_const (v := 3) hx hb dL_isTraded_192 rfl ?_
                  refine k_total ⟨hx, hb, hml, hown, hts⟩ (cwV 1 hts gL_isTraded_X5_total rfl rfl rfl (by decide +kernel) ⟨Nat.le_of_ble_eq_true rfl, Nat.le_of_ble_eq_true rfl⟩) hK hNW hAA (by decide) hO hS hl.1 (Nat.le_of_ble_eq_true rfl) dL_isTraded_193 ⟨Nat.zero_le _, Nat.zero_le _⟩ (fun H locs hO hS => ?_)
                  have hO : q_OB G AA c0 hbd (tM M (k % 7) (k / 7)) (q_hM M) _ := hO
                  refine nr_top (y := nI (es (tM M (k % 7) (k / 7)) (ow (tM M (k % 7) (k / 7)) 0) 127 127)) (to_3) ?_
                  refine nr_top (y := nI (es M (swO (ow M 0) (k / 7) (k % 7)) 127 127)) (congrArg nI (tM_es.trans (sw_c2 M (k % 7) (k / 7)))) ?_
                  refine br_ine (tgt := 230) hx hb dL_isTraded_196 (by decide) (by omega) (by omega) (fun h30 => ?_) (fun h30 => ?_)
                  · exact absurd rfl h30
                  · skip
                    refine lv_aload_n hx hb dL_isTraded_199 rfl (lv_at hl 11 rfl) ?_
                    refine lv_iload hx hb dL_isTraded_200 (lv_at hl 7 rfl) ?_
                    refine nr_const (v := 5) hx hb dL_isTraded_202 rfl ?_
                    refine k_cousin ⟨hx, hb, hml, hown, hts⟩ (cwV 2 hts gL_isTraded_X5_cousin rfl rfl rfl (by decide +kernel) ⟨Nat.le_of_ble_eq_true rfl, Nat.le_of_ble_eq_true rfl⟩) hK hNW hAA  hO hS hl.1 (Nat.le_of_ble_eq_true rfl) dL_isTraded_203 ⟨Nat.zero_le _, Nat.zero_le _⟩ (fun H locs hO hS => ?_)
                    have hO : q_OB G AA c0 hbd (tM M (k % 7) (k / 7)) (q_hM M) _ := hO
                    refine nr_top (y := nI (sh (tM M (k % 7) (k / 7)) (ow (tM M (k % 7) (k / 7)) 0) (k / 7) (k / 7))) (cz_5 (by omega)) ?_
                    refine nr_top (y := nI (sh M (ow M 0) (k / 7) (k % 7))) (congrArg nI (tM_s2 (by omega))) ?_
                    refine lv_iload hx hb dL_isTraded_206 (lv_at hl 5 rfl) ?_
                    refine br_ile (tgt := 230) hx hb dL_isTraded_208 (by decide) (by omega) (by omega) (fun h31 => ?_) (fun h31 => ?_)
                    · exact absurd h31 (by omega)
                    · skip
                      refine lv_aload_n hx hb dL_isTraded_211 rfl (lv_at hl 11 rfl) ?_
                      refine lv_iload hx hb dL_isTraded_212 (lv_at hl 6 rfl) ?_
                      refine nr_const (v := 5) hx hb dL_isTraded_214 rfl ?_
                      refine k_cousin ⟨hx, hb, hml, hown, hts⟩ (cwV 2 hts gL_isTraded_X5_cousin rfl rfl rfl (by decide +kernel) ⟨Nat.le_of_ble_eq_true rfl, Nat.le_of_ble_eq_true rfl⟩) hK hNW hAA  hO hS hl.1 (Nat.le_of_ble_eq_true rfl) dL_isTraded_215 ⟨Nat.zero_le _, Nat.zero_le _⟩ (fun H locs hO hS => ?_)
                      have hO : q_OB G AA c0 hbd (tM M (k % 7) (k / 7)) (q_hM M) _ := hO
                      refine nr_top (y := nI (sh (tM M (k % 7) (k / 7)) (ow (tM M (k % 7) (k / 7)) 0) (k % 7) (k % 7))) (cz_5 (by omega)) ?_
                      refine nr_top (y := nI (sh M (ow M 0) (k % 7) (k / 7))) (congrArg nI (tM_s1 (by omega))) ?_
                      refine lv_iload hx hb dL_isTraded_218 (lv_at hl 4 rfl) ?_
                      refine br_ile (tgt := 230) hx hb dL_isTraded_220 (by decide) (by omega) (by omega) (fun h32 => ?_) (fun h32 => ?_)
                      · exact absurd h32 (by omega)
                      · skip
                        refine lv_aload_n hx hb dL_isTraded_223 rfl (lv_at hl 11 rfl) ?_
                        refine k_undo ⟨hx, hb, hml, hown, hts⟩ (cwV 0 hts gL_isTraded_X5_undo rfl rfl rfl (by decide +kernel) ⟨Nat.le_of_ble_eq_true rfl, Nat.le_of_ble_eq_true rfl⟩) hK hNW hAA  hO hS hl.1 (Nat.le_of_ble_eq_true rfl) dL_isTraded_224 ⟨Nat.zero_le _, Nat.zero_le _⟩ (fun H locs n33 en33 hO hS => ?_)
                        have hO : q_OB G AA c0 hbd M q_hT _ := hO
                        refine br_ge0 (tgt := 232) hx hb dL_isTraded_227 (by decide) (by omega) ?_
                        refine nr_inc (d := 1) (v := k + 1) (lv' := [(6, .int (nI (k + 1))), (5, .int (nI (es M (swO (ow M 0) (k / 7) (k % 7)) 127 127))), (4, .int (nI ((10 * (k / 7)) + (k % 7)))), (12, .int (nI 1)), (11, .int (nI (es M (swO (ow M 0) (k / 7) (k % 7)) 127 127))), (10, .int (nI (sh M (ow M 0) (k % 7) (k % 7)))), (9, .int (nI (sh M (ow M 0) (k / 7) (k / 7)))), (8, .int (nI (k % 7))), (7, .int (nI (k / 7))), (3, .int (nI (M 201))), (2, .int (nI ((bT M).2))), (1, .int (nbI (bT M).1)), (0, .ref c0)]) hx hb dL_isTraded_232 hl (k := 12) rfl rfl (by decide) rfl (fun ls hl => ?_)
                        refine lv_goto (tgt := 66) hx hb dL_isTraded_235 (by decide) ?_
                        obtain ⟨efx1, efx2⟩ := bsf_ye (M := M) (O := ow M 0) (k := k) (by assumption) (by assumption) (by first | exact Or.inl (by assumption) | exact Or.inr (by assumption)) (by omega)
                        exact ih2 (k + 1) ls H locs (by show lv_has ls 13 [(3, .int (nI (M 201))), (2, .int (nI ((bT M).2))), (1, .int (nbI (bT M).1)), (0, .ref c0), (4, .int (nbI (bsf M (ow M 0) (k + 1)).1)), (5, .int (nI ((bsf M (ow M 0) (k + 1)).2))), (6, .int (nI (k + 1)))]; rw [efx1, efx2]; exact lv_sub hl [9, 10, 11, 12, 2, 1, 0] rfl) hO hS (by omega) (by omega)
  · skip
    have hn1 : (bT M).1 = 0 := (nbI_5 (Nat.lt_trans (bT_lt M) (by decide))).mp (by assumption)
    have hn0 : (bsf M (ow M 0) 49).1 = 0 := hn1
    refine lv_iload_n hx hb dL_isTraded_25 rfl (lv_at hl 1 rfl) ?_
    refine lv_bipush (v := (-5)) hx hb dL_isTraded_26 (by decide +kernel) ?_
    refine lv_icmp_ne (tgt := 54) hx hb dL_isTraded_28 (by decide) (fun h34 => ?_) (fun h34 => ?_)
    · exact absurd (if_pos hn1) h34
    · skip
      refine lv_aload_n hx hb dL_isTraded_31 rfl (lv_at hl 3 rfl) ?_
      refine k_settleN ⟨hx, hb, hml, hown, hts⟩ (cwV 0 hts gL_isTraded_X5_settle rfl rfl rfl (by decide +kernel) ⟨Nat.le_of_ble_eq_true rfl, Nat.le_of_ble_eq_true rfl⟩) hK hNW hAA hn0 hO hS hl.1 (Nat.le_of_ble_eq_true rfl) dL_isTraded_32 ⟨Nat.zero_le _, Nat.zero_le _⟩ (fun H locs hO hS => ?_)
      have hO : q_OB G AA c0 hbd M q_hT _ := hO
      refine lv_bipush (v := (-5)) hx hb dL_isTraded_35 (by decide +kernel) ?_
      refine lv_icmp_ne (tgt := 54) hx hb dL_isTraded_37 (by decide) (fun h35 => ?_) (fun h35 => ?_)
      · exact absurd rfl h35
      · skip
        refine lv_aload_n hx hb dL_isTraded_40 rfl (lv_at hl 3 rfl) ?_
        refine nr_bi (v := 8) hx hb dL_isTraded_41 (by decide +kernel) ?_
        refine k_total ⟨hx, hb, hml, hown, hts⟩ (cwV 1 hts gL_isTraded_X5_total rfl rfl rfl (by decide +kernel) ⟨Nat.le_of_ble_eq_true rfl, Nat.le_of_ble_eq_true rfl⟩) hK hNW hAA (by decide) hO hS hl.1 (Nat.le_of_ble_eq_true rfl) dL_isTraded_43 ⟨Nat.zero_le _, Nat.zero_le _⟩ (fun H locs hO hS => ?_)
        have hO : q_OB G AA c0 hbd M q_hT _ := hO
        refine nr_top (y := nI (M 201)) (to_8) ?_
        refine lv_iload_n hx hb dL_isTraded_46 rfl (lv_at hl 0 rfl) ?_
        refine br_ine (tgt := 54) hx hb dL_isTraded_47 (by decide) (by omega) (by omega) (fun h36 => ?_) (fun h36 => ?_)
        · exact absurd rfl h36
        · skip
          refine nr_const (v := 1) hx hb dL_isTraded_50 rfl ?_
          refine lv_goto (tgt := 55) hx hb dL_isTraded_51 (by decide) ?_
          exact obretz (post := fun (r : Int32) (u : Nat → Nat) => r = nI 1 ∧ (q_iv (hbd + 64) u)) (ob := fun (u : Nat → Nat) => q_OB G AA c0 (hbd + 64) u q_hT) hx hb hr hlk hS (M) (q_OB_le hO (by omega)) ⟨rfl, q_iv_le hv (by omega)⟩ dL_isTraded_55)
