set_option maxHeartbeats 4000000 in
set_option maxRecDepth 100000 in
theorem m_isDivided (l : Launch) (G : gG) (AA : Nat → Prop) (c0 hbd : Nat) (M : Nat → Nat)  (A : Nat) (hA0 : 0 < A) (hA : A < 128) (hv : q_iv hbd M) (hnb : hbd < 1000000) : Met l yL_isDivided wsL_isDivided ({ frames := 6, cells := 0, slots := 0, locals := 142 } : Room) (q_PO G AA (q_OB G AA c0 hbd M q_hT) [.ref c0, .int (nI A)]) (va_Qi (fun (r : Int32) (u : Nat → Nat) => r = nI 1 ∧ (q_iv (hbd + 64) u)) (fun (u : Nat → Nat) (t : State) => (q_OB G AA c0 (hbd + 64) u q_hT) t.heap) AA) 0 0 AA := obM (C := RL) rfl (by decide) rfl (Nat.le_of_ble_eq_true rfl) (fun pX eX sX mX bX meX cX ls hx hb hr hts hown hlk hml hAA hO hK hNW hS hl => by
  have hl : lv_has ls 18 [(0, .ref c0), (1, .int (nI A))] := hl
  have h0k := hv.1
  have hdT := dT_le M A
  have hdU := dU_le M A
  have hdv := dM_iv hv hA0 hA
  have h0d := hdv.1
  have hLi := dL_i h0k hA0 hA
  have hLn := dL_in h0k hA0 hA
  have hed : es M (dO M A) 127 127 ≤ 723975 := es_le h0k
  have h198 : M 198 < 11 := h0k.2.2.2.2.2.2
  have h199 := hv.2.2.1
  have h200 := hv.2.1
  have hO0 := (dO_in h0k hA0 hA (k := 0) (by decide)).1
  have hon := on_le
  refine lv_aload_n hx hb dL_isDivided_0 rfl (lv_at hl 0 rfl) ?_
  refine lv_iload_n hx hb dL_isDivided_1 rfl (lv_at hl 1 rfl) ?_
  refine nr_const (v := 0) hx hb dL_isDivided_2 rfl ?_
  refine k_ifDivided ⟨hx, hb, hml, hown, hts⟩ (cwV 2 hts gL_isDivided_X5_ifDivided rfl rfl rfl (by decide +kernel) ⟨Nat.le_of_ble_eq_true rfl, Nat.le_of_ble_eq_true rfl⟩) hK hNW hAA  hO hS hl.1 (Nat.le_of_ble_eq_true rfl) dL_isDivided_3 ⟨Nat.zero_le _, Nat.zero_le _⟩ (fun H locs hO hS => ?_)
  have hO : q_OB G AA c0 hbd M q_hT _ := hO
  refine nr_top (y := nI (dT_ M A)) (if_0 (by omega) (by omega)) ?_
  refine lv_istore_n (lv' := [(2, .int (nI (dT_ M A))), (0, .ref c0), (1, .int (nI A))]) hx hb dL_isDivided_6 rfl hl (by decide) rfl (fun ls hl => ?_)
  refine lv_aload_n hx hb dL_isDivided_7 rfl (lv_at hl 1 rfl) ?_
  refine lv_iload_n hx hb dL_isDivided_8 rfl (lv_at hl 2 rfl) ?_
  refine nr_const (v := 1) hx hb dL_isDivided_9 rfl ?_
  refine k_ifDivided ⟨hx, hb, hml, hown, hts⟩ (cwV 2 hts gL_isDivided_X5_ifDivided rfl rfl rfl (by decide +kernel) ⟨Nat.le_of_ble_eq_true rfl, Nat.le_of_ble_eq_true rfl⟩) hK hNW hAA  hO hS hl.1 (Nat.le_of_ble_eq_true rfl) dL_isDivided_10 ⟨Nat.zero_le _, Nat.zero_le _⟩ (fun H locs hO hS => ?_)
  have hO : q_OB G AA c0 hbd M q_hT _ := hO
  refine nr_top (y := nI (dU M A)) (if_1 (by omega) (by omega)) ?_
  refine lv_istore_n (lv' := [(3, .int (nI (dU M A))), (2, .int (nI (dT_ M A))), (0, .ref c0), (1, .int (nI A))]) hx hb dL_isDivided_13 rfl hl (by decide) rfl (fun ls hl => ?_)
  refine lv_aload_n hx hb dL_isDivided_14 rfl (lv_at hl 2 rfl) ?_
  refine lv_iload_n hx hb dL_isDivided_15 rfl (lv_at hl 3 rfl) ?_
  refine nr_const (v := 2) hx hb dL_isDivided_16 rfl ?_
  refine k_ifDivided ⟨hx, hb, hml, hown, hts⟩ (cwV 2 hts gL_isDivided_X5_ifDivided rfl rfl rfl (by decide +kernel) ⟨Nat.le_of_ble_eq_true rfl, Nat.le_of_ble_eq_true rfl⟩) hK hNW hAA  hO hS hl.1 (Nat.le_of_ble_eq_true rfl) dL_isDivided_17 ⟨Nat.zero_le _, Nat.zero_le _⟩ (fun H locs hO hS => ?_)
  have hO : q_OB G AA c0 hbd M q_hT _ := hO
  refine nr_top (y := nI (es M (dO M A) 127 127)) (if_2 (by omega) (by omega)) ?_
  refine lv_istore (lv' := [(4, .int (nI (es M (dO M A) 127 127))), (3, .int (nI (dU M A))), (2, .int (nI (dT_ M A))), (0, .ref c0), (1, .int (nI A))]) hx hb dL_isDivided_20 hl (by decide) rfl (fun ls hl => ?_)
  refine lv_aload_n hx hb dL_isDivided_22 rfl (lv_at hl 3 rfl) ?_
  refine lv_iload_n hx hb dL_isDivided_23 rfl (lv_at hl 4 rfl) ?_
  refine nr_const (v := 3) hx hb dL_isDivided_24 rfl ?_
  refine k_ifDivided ⟨hx, hb, hml, hown, hts⟩ (cwV 2 hts gL_isDivided_X5_ifDivided rfl rfl rfl (by decide +kernel) ⟨Nat.le_of_ble_eq_true rfl, Nat.le_of_ble_eq_true rfl⟩) hK hNW hAA  hO hS hl.1 (Nat.le_of_ble_eq_true rfl) dL_isDivided_25 ⟨Nat.zero_le _, Nat.zero_le _⟩ (fun H locs hO hS => ?_)
  have hO : q_OB G AA c0 hbd M q_hT _ := hO
  refine nr_top (y := nI (dO M A 0)) (if_3 (by omega) (by omega)) ?_
  refine lv_istore (lv' := [(5, .int (nI (dO M A 0))), (4, .int (nI (es M (dO M A) 127 127))), (3, .int (nI (dU M A))), (2, .int (nI (dT_ M A))), (0, .ref c0), (1, .int (nI A))]) hx hb dL_isDivided_28 hl (by decide) rfl (fun ls hl => ?_)
  refine lv_aload_n hx hb dL_isDivided_30 rfl (lv_at hl 4 rfl) ?_
  refine lv_iload_n hx hb dL_isDivided_31 rfl (lv_at hl 5 rfl) ?_
  refine nr_const (v := 4) hx hb dL_isDivided_32 rfl ?_
  refine k_ifDivided ⟨hx, hb, hml, hown, hts⟩ (cwV 2 hts gL_isDivided_X5_ifDivided rfl rfl rfl (by decide +kernel) ⟨Nat.le_of_ble_eq_true rfl, Nat.le_of_ble_eq_true rfl⟩) hK hNW hAA  hO hS hl.1 (Nat.le_of_ble_eq_true rfl) dL_isDivided_33 ⟨Nat.zero_le _, Nat.zero_le _⟩ (fun H locs hO hS => ?_)
  have hO : q_OB G AA c0 hbd M q_hT _ := hO
  refine nr_top (y := nI (dL M A)) (if_4 (by omega) (by omega)) ?_
  refine lv_istore (lv' := [(6, .int (nI (dL M A))), (5, .int (nI (dO M A 0))), (4, .int (nI (es M (dO M A) 127 127))), (3, .int (nI (dU M A))), (2, .int (nI (dT_ M A))), (0, .ref c0), (1, .int (nI A))]) hx hb dL_isDivided_36 hl (by decide) rfl (fun ls hl => ?_)
  refine lv_aload_n hx hb dL_isDivided_38 rfl (lv_at hl 5 rfl) ?_
  refine nr_bi (v := 6) hx hb dL_isDivided_39 (by decide +kernel) ?_
  refine k_total ⟨hx, hb, hml, hown, hts⟩ (cwV 1 hts gL_isDivided_X5_total rfl rfl rfl (by decide +kernel) ⟨Nat.le_of_ble_eq_true rfl, Nat.le_of_ble_eq_true rfl⟩) hK hNW hAA (by decide) hO hS hl.1 (Nat.le_of_ble_eq_true rfl) dL_isDivided_41 ⟨Nat.zero_le _, Nat.zero_le _⟩ (fun H locs hO hS => ?_)
  have hO : q_OB G AA c0 hbd M q_hT _ := hO
  refine nr_top (y := nI (M 199)) (to_6) ?_
  refine lv_istore (lv' := [(7, .int (nI (M 199))), (6, .int (nI (dL M A))), (5, .int (nI (dO M A 0))), (4, .int (nI (es M (dO M A) 127 127))), (3, .int (nI (dU M A))), (2, .int (nI (dT_ M A))), (0, .ref c0), (1, .int (nI A))]) hx hb dL_isDivided_44 hl (by decide) rfl (fun ls hl => ?_)
  refine lv_aload_n hx hb dL_isDivided_46 rfl (lv_at hl 6 rfl) ?_
  refine nr_bi (v := 7) hx hb dL_isDivided_47 (by decide +kernel) ?_
  refine k_total ⟨hx, hb, hml, hown, hts⟩ (cwV 1 hts gL_isDivided_X5_total rfl rfl rfl (by decide +kernel) ⟨Nat.le_of_ble_eq_true rfl, Nat.le_of_ble_eq_true rfl⟩) hK hNW hAA (by decide) hO hS hl.1 (Nat.le_of_ble_eq_true rfl) dL_isDivided_49 ⟨Nat.zero_le _, Nat.zero_le _⟩ (fun H locs hO hS => ?_)
  have hO : q_OB G AA c0 hbd M q_hT _ := hO
  refine nr_top (y := nI (M 200)) (to_7) ?_
  refine lv_istore (lv' := [(8, .int (nI (M 200))), (7, .int (nI (M 199))), (6, .int (nI (dL M A))), (5, .int (nI (dO M A 0))), (4, .int (nI (es M (dO M A) 127 127))), (3, .int (nI (dU M A))), (2, .int (nI (dT_ M A))), (0, .ref c0), (1, .int (nI A))]) hx hb dL_isDivided_52 hl (by decide) rfl (fun ls hl => ?_)
  refine lv_aload_n hx hb dL_isDivided_54 rfl (lv_at hl 7 rfl) ?_
  refine nr_const (v := 1) hx hb dL_isDivided_55 rfl ?_
  refine k_total ⟨hx, hb, hml, hown, hts⟩ (cwV 1 hts gL_isDivided_X5_total rfl rfl rfl (by decide +kernel) ⟨Nat.le_of_ble_eq_true rfl, Nat.le_of_ble_eq_true rfl⟩) hK hNW hAA (by decide) hO hS hl.1 (Nat.le_of_ble_eq_true rfl) dL_isDivided_56 ⟨Nat.zero_le _, Nat.zero_le _⟩ (fun H locs hO hS => ?_)
  have hO : q_OB G AA c0 hbd M q_hT _ := hO
  refine nr_top (y := nI (M 198)) (to_1) ?_
  refine lv_istore (lv' := [(9, .int (nI (M 198))), (8, .int (nI (M 200))), (7, .int (nI (M 199))), (6, .int (nI (dL M A))), (5, .int (nI (dO M A 0))), (4, .int (nI (es M (dO M A) 127 127))), (3, .int (nI (dU M A))), (2, .int (nI (dT_ M A))), (0, .ref c0), (1, .int (nI A))]) hx hb dL_isDivided_59 hl (by decide) rfl (fun ls hl => ?_)
  refine lv_aload_n hx hb dL_isDivided_61 rfl (lv_at hl 8 rfl) ?_
  refine lv_iload_n hx hb dL_isDivided_62 rfl (lv_at hl 9 rfl) ?_
  refine k_divide ⟨hx, hb, hml, hown, hts⟩ (cwV 1 hts gL_isDivided_X5_divide rfl rfl rfl (by decide +kernel) ⟨Nat.le_of_ble_eq_true rfl, Nat.le_of_ble_eq_true rfl⟩) hK hNW hAA hA0 hA hv hO hS hl.1 (Nat.le_of_ble_eq_true rfl) dL_isDivided_63 ⟨Nat.zero_le _, Nat.zero_le _⟩ (fun H locs hO hS => ?_)
  have hO : q_OB G AA c0 hbd (dM M A) (q_hM M) _ := hO
  refine lv_iload_n hx hb dL_isDivided_66 rfl (lv_at hl 7 rfl) ?_
  refine br_ine (tgt := 130) hx hb dL_isDivided_67 (by decide) (by omega) (by omega) (fun h1 => ?_) (fun h1 => ?_)
  · exact absurd rfl h1
  · skip
    refine lv_aload_n hx hb dL_isDivided_70 rfl (lv_at hl 8 rfl) ?_
    refine nr_bi (v := 6) hx hb dL_isDivided_71 (by decide +kernel) ?_
    refine k_total ⟨hx, hb, hml, hown, hts⟩ (cwV 1 hts gL_isDivided_X5_total rfl rfl rfl (by decide +kernel) ⟨Nat.le_of_ble_eq_true rfl, Nat.le_of_ble_eq_true rfl⟩) hK hNW hAA (by decide) hO hS hl.1 (Nat.le_of_ble_eq_true rfl) dL_isDivided_73 ⟨Nat.zero_le _, Nat.zero_le _⟩ (fun H locs hO hS => ?_)
    have hO : q_OB G AA c0 hbd (dM M A) (q_hM M) _ := hO
    refine nr_top (y := nI ((dM M A) 199)) (to_6) ?_
    refine nr_top (y := nI ((M 199) + (dT_ M A))) (congrArg nI (dM_199 M A)) ?_
    refine lv_iload hx hb dL_isDivided_76 (lv_at hl 2 rfl) ?_
    refine lv_iload_n hx hb dL_isDivided_78 rfl (lv_at hl 7 rfl) ?_
    refine nr_add hx hb dL_isDivided_79 ?_
    refine br_ine (tgt := 130) hx hb dL_isDivided_80 (by decide) (by omega) (by omega) (fun h2 => ?_) (fun h2 => ?_)
    · exact absurd rfl h2
    · skip
      refine lv_aload_n hx hb dL_isDivided_83 rfl (lv_at hl 8 rfl) ?_
      refine nr_bi (v := 7) hx hb dL_isDivided_84 (by decide +kernel) ?_
      refine k_total ⟨hx, hb, hml, hown, hts⟩ (cwV 1 hts gL_isDivided_X5_total rfl rfl rfl (by decide +kernel) ⟨Nat.le_of_ble_eq_true rfl, Nat.le_of_ble_eq_true rfl⟩) hK hNW hAA (by decide) hO hS hl.1 (Nat.le_of_ble_eq_true rfl) dL_isDivided_86 ⟨Nat.zero_le _, Nat.zero_le _⟩ (fun H locs hO hS => ?_)
      have hO : q_OB G AA c0 hbd (dM M A) (q_hM M) _ := hO
      refine nr_top (y := nI ((dM M A) 200)) (to_7) ?_
      refine nr_top (y := nI ((M 200) + (dU M A))) (congrArg nI (dM_200 M A)) ?_
      refine lv_iload hx hb dL_isDivided_89 (lv_at hl 1 rfl) ?_
      refine lv_iload_n hx hb dL_isDivided_91 rfl (lv_at hl 6 rfl) ?_
      refine nr_add hx hb dL_isDivided_92 ?_
      refine br_ine (tgt := 130) hx hb dL_isDivided_93 (by decide) (by omega) (by omega) (fun h3 => ?_) (fun h3 => ?_)
      · exact absurd rfl h3
      · skip
        refine lv_aload_n hx hb dL_isDivided_96 rfl (lv_at hl 8 rfl) ?_
        refine nr_const (v := 3) hx hb dL_isDivided_97 rfl ?_
        refine k_total ⟨hx, hb, hml, hown, hts⟩ (cwV 1 hts gL_isDivided_X5_total rfl rfl rfl (by decide +kernel) ⟨Nat.le_of_ble_eq_true rfl, Nat.le_of_ble_eq_true rfl⟩) hK hNW hAA (by decide) hO hS hl.1 (Nat.le_of_ble_eq_true rfl) dL_isDivided_98 ⟨Nat.zero_le _, Nat.zero_le _⟩ (fun H locs hO hS => ?_)
        have hO : q_OB G AA c0 hbd (dM M A) (q_hM M) _ := hO
        refine nr_top (y := nI (es (dM M A) (ow (dM M A) 0) 127 127)) (to_3) ?_
        refine nr_top (y := nI (es M (dO M A) 127 127)) (congrArg nI dM_es) ?_
        refine lv_iload hx hb dL_isDivided_101 (lv_at hl 5 rfl) ?_
        refine br_ine (tgt := 130) hx hb dL_isDivided_103 (by decide) (by omega) (by omega) (fun h4 => ?_) (fun h4 => ?_)
        · exact absurd rfl h4
        · skip
          refine lv_aload_n hx hb dL_isDivided_106 rfl (lv_at hl 8 rfl) ?_
          refine nr_const (v := 0) hx hb dL_isDivided_107 rfl ?_
          refine nr_const (v := 4) hx hb dL_isDivided_108 rfl ?_
          refine k_plot ⟨hx, hb, hml, hown, hts⟩ (cwV 2 hts gL_isDivided_X5_plot rfl rfl rfl (by decide +kernel) ⟨Nat.le_of_ble_eq_true rfl, Nat.le_of_ble_eq_true rfl⟩) hK hNW hAA  hO hS hl.1 (Nat.le_of_ble_eq_true rfl) dL_isDivided_109 ⟨Nat.zero_le _, Nat.zero_le _⟩ ?_
          refine nr_top (y := nI (ow (dM M A) 0 0)) (pl_o (by omega)) ?_
          refine nr_top (y := nI (dO M A 0)) (congrArg nI (dM_ow (by decide))) ?_
          refine lv_iload hx hb dL_isDivided_112 (lv_at hl 4 rfl) ?_
          refine br_ine (tgt := 130) hx hb dL_isDivided_114 (by decide) (by omega) (by omega) (fun h5 => ?_) (fun h5 => ?_)
          · exact absurd rfl h5
          · skip
            refine lv_aload_n hx hb dL_isDivided_117 rfl (lv_at hl 8 rfl) ?_
            refine nr_const (v := 2) hx hb dL_isDivided_118 rfl ?_
            refine k_total ⟨hx, hb, hml, hown, hts⟩ (cwV 1 hts gL_isDivided_X5_total rfl rfl rfl (by decide +kernel) ⟨Nat.le_of_ble_eq_true rfl, Nat.le_of_ble_eq_true rfl⟩) hK hNW hAA (by decide) hO hS hl.1 (Nat.le_of_ble_eq_true rfl) dL_isDivided_119 ⟨Nat.zero_le _, Nat.zero_le _⟩ (fun H locs hO hS => ?_)
            have hO : q_OB G AA c0 hbd (dM M A) (q_hM M) _ := hO
            refine nr_top (y := nI (pc4 (ow (dM M A) 0) 7)) (to_2) ?_
            refine nr_top (y := nI 0) (congrArg nI (dM_pc.trans (dnob h0k hA0 hA))) ?_
            refine br_ne0 (tgt := 130) hx hb dL_isDivided_122 (by decide) (by decide) (fun h6 => ?_) (fun h6 => ?_)
            · exact absurd (by decide) h6
            · skip
              refine lv_iload_n hx hb dL_isDivided_125 rfl (lv_at hl 6 rfl) ?_
              refine lv_iload_n hx hb dL_isDivided_126 rfl (lv_at hl 7 rfl) ?_
              refine br_ile (tgt := 132) hx hb dL_isDivided_127 (by decide) (by omega) (by omega) (fun h7 => ?_) (fun h7 => ?_)
              · skip
                refine lv_iload_n hx hb dL_isDivided_132 rfl (lv_at hl 9 rfl) ?_
                refine lv_istore (lv' := [(10, .int (nI A)), (9, .int (nI (M 198))), (8, .int (nI (M 200))), (7, .int (nI (M 199))), (6, .int (nI (dL M A))), (5, .int (nI (dO M A 0))), (4, .int (nI (es M (dO M A) 127 127))), (3, .int (nI (dU M A))), (2, .int (nI (dT_ M A))), (0, .ref c0), (1, .int (nI A))]) hx hb dL_isDivided_133 hl (by decide) rfl (fun ls hl => ?_)
                refine nr_const (v := 0) hx hb dL_isDivided_135 rfl ?_
                refine lv_istore (lv' := [(11, .int (nI 0)), (10, .int (nI A)), (9, .int (nI (M 198))), (8, .int (nI (M 200))), (7, .int (nI (M 199))), (6, .int (nI (dL M A))), (5, .int (nI (dO M A 0))), (4, .int (nI (es M (dO M A) 127 127))), (3, .int (nI (dU M A))), (2, .int (nI (dT_ M A))), (0, .ref c0), (1, .int (nI A))]) hx hb dL_isDivided_136 hl (by decide) rfl (fun ls hl => ?_)
                refine loop_o (T := Nat × Nat) (nL := 18) (fun x => dInv M A x.1 x.2) (fun x => 24 - x.2) (fun x => [(11, .int (nI x.2)), (10, .int (nI x.1)), (9, .int (nI (M 198))), (8, .int (nI (M 200))), (7, .int (nI (M 199))), (6, .int (nI (dL M A))), (5, .int (nI (dO M A 0))), (4, .int (nI (es M (dO M A) 127 127))), (3, .int (nI (dU M A))), (2, .int (nI (dT_ M A))), (0, .ref c0), (1, .int (nI A))]) (fun x => q_OB G AA c0 hbd (dM M A) (q_hM M)) ?_ (A, 0) (lv_sub hl [0, 1, 2, 3, 4, 5, 6, 7, 8, 9, 10, 11] rfl) hO hS (dInv_0 hA0 hA)
                intro x ls H locs hl hO hS hi9 ih8
                have hi_i := hi9
                have hi_i : dInv M A x.1 x.2 := hi_i
                have hO : q_OB G AA c0 hbd (dM M A) (q_hM M) _ := hO
                have hl : lv_has ls 18 [(11, .int (nI x.2)), (10, .int (nI x.1)), (9, .int (nI (M 198))), (8, .int (nI (M 200))), (7, .int (nI (M 199))), (6, .int (nI (dL M A))), (5, .int (nI (dO M A 0))), (4, .int (nI (es M (dO M A) 127 127))), (3, .int (nI (dU M A))), (2, .int (nI (dT_ M A))), (0, .ref c0), (1, .int (nI A))] := hl
                have hon1 := on_le x.1
                have hi_L := hi_i.1
                have hi_a := dInv_le h0k hA hi_i
                refine lv_iload hx hb dL_isDivided_138 (lv_at hl 1 rfl) ?_
                refine rcS (As := [.int (nI x.1)]) ⟨hx, hb, hml, hown, hts⟩ (c_L_ones l x.1 (by omega)) (va_cwS 1 hts gL_isDivided_L_ones rfl rfl rfl (by decide +kernel) ⟨Nat.le_of_ble_eq_true rfl, Nat.le_of_ble_eq_true rfl⟩) rfl hl.1 rfl (Nat.le_of_ble_eq_true rfl) dL_isDivided_140 ⟨Nat.zero_le _, Nat.zero_le _⟩ ?_
                refine nr_const (v := 1) hx hb dL_isDivided_143 rfl ?_
                refine br_ile (tgt := 363) hx hb dL_isDivided_144 (by decide) (by omega) (by decide) (fun h10 => ?_) (fun h10 => ?_)
                · skip
                  refine nr_const (v := 0) hx hb dL_isDivided_363 rfl ?_
                  refine lv_istore (lv' := [(12, .int (nI 0)), (11, .int (nI x.2)), (10, .int (nI x.1)), (9, .int (nI (M 198))), (8, .int (nI (M 200))), (7, .int (nI (M 199))), (6, .int (nI (dL M A))), (5, .int (nI (dO M A 0))), (4, .int (nI (es M (dO M A) 127 127))), (3, .int (nI (dU M A))), (2, .int (nI (dT_ M A))), (0, .ref c0), (1, .int (nI A))]) hx hb dL_isDivided_364 hl (by decide) rfl (fun ls hl => ?_)
                  refine nr_const (v := 0) hx hb dL_isDivided_366 rfl ?_
                  refine lv_istore (lv' := [(13, .int (nI 0)), (12, .int (nI 0)), (11, .int (nI x.2)), (10, .int (nI x.1)), (9, .int (nI (M 198))), (8, .int (nI (M 200))), (7, .int (nI (M 199))), (6, .int (nI (dL M A))), (5, .int (nI (dO M A 0))), (4, .int (nI (es M (dO M A) 127 127))), (3, .int (nI (dU M A))), (2, .int (nI (dT_ M A))), (0, .ref c0), (1, .int (nI A))]) hx hb dL_isDivided_367 hl (by decide) rfl (fun ls hl => ?_)
                  refine loop_o (T := Nat) (nL := 18) (fun c => c ≤ 7) (fun c => 7 - c) (fun c => [(12, .int (nI (sm (fun j => pc4 (dO M A) j) c))), (9, .int (nI (M 198))), (8, .int (nI (M 200))), (7, .int (nI (M 199))), (6, .int (nI (dL M A))), (5, .int (nI (dO M A 0))), (4, .int (nI (es M (dO M A) 127 127))), (3, .int (nI (dU M A))), (2, .int (nI (dT_ M A))), (0, .ref c0), (1, .int (nI A)), (13, .int (nI c))]) (fun c => q_OB G AA c0 hbd (dM M A) (q_hM M)) ?_ 0 (lv_sub hl [1, 4, 5, 6, 7, 8, 9, 10, 11, 12, 13, 0] rfl) hO hS (by omega)
                  intro c ls H locs hl hO hS hi12 ih11
                  have hi12_0 := hi12
                  have hi12_0 : c ≤ 7 := hi12_0
                  have hO : q_OB G AA c0 hbd (dM M A) (q_hM M) _ := hO
                  have hl : lv_has ls 18 [(12, .int (nI (sm (fun j => pc4 (dO M A) j) c))), (9, .int (nI (M 198))), (8, .int (nI (M 200))), (7, .int (nI (M 199))), (6, .int (nI (dL M A))), (5, .int (nI (dO M A 0))), (4, .int (nI (es M (dO M A) 127 127))), (3, .int (nI (dU M A))), (2, .int (nI (dT_ M A))), (0, .ref c0), (1, .int (nI A)), (13, .int (nI c))] := hl
                  refine lv_iload hx hb dL_isDivided_369 (lv_at hl 11 rfl) ?_
                  refine nr_bi (v := 7) hx hb dL_isDivided_371 (by decide +kernel) ?_
                  refine br_ige (tgt := 415) hx hb dL_isDivided_373 (by decide) (by omega) (by decide) (fun h13 => ?_) (fun h13 => ?_)
                  · skip
                    have e2 : c = 7 := (by omega)
                    subst e2
                    have hl : lv_has ls 18 [(12, .int (nI (sm (fun j => pc4 (dO M A) j) 7))), (9, .int (nI (M 198))), (8, .int (nI (M 200))), (7, .int (nI (M 199))), (6, .int (nI (dL M A))), (5, .int (nI (dO M A 0))), (4, .int (nI (es M (dO M A) 127 127))), (3, .int (nI (dU M A))), (2, .int (nI (dT_ M A))), (0, .ref c0), (1, .int (nI A)), (13, .int (nI 7))] := hl
                    rw [dheld h0k hA0 hA] at hl
                    have hl : lv_has ls 18 [(12, .int (nI 24)), (9, .int (nI (M 198))), (8, .int (nI (M 200))), (7, .int (nI (M 199))), (6, .int (nI (dL M A))), (5, .int (nI (dO M A 0))), (4, .int (nI (es M (dO M A) 127 127))), (3, .int (nI (dU M A))), (2, .int (nI (dT_ M A))), (0, .ref c0), (1, .int (nI A)), (13, .int (nI 7))] := hl
                    refine lv_iload hx hb dL_isDivided_415 (lv_at hl 0 rfl) ?_
                    refine nr_bi (v := 24) hx hb dL_isDivided_417 (by decide +kernel) ?_
                    refine br_ine (tgt := 446) hx hb dL_isDivided_419 (by decide) (by decide) (by decide) (fun h14 => ?_) (fun h14 => ?_)
                    · exact absurd (by decide) h14
                    · skip
                      refine lv_iload_n hx hb dL_isDivided_422 rfl (lv_at hl 10 rfl) ?_
                      refine lv_iload hx hb dL_isDivided_423 (lv_at hl 4 rfl) ?_
                      refine lv_ishr hx hb dL_isDivided_425 ?_
                      refine nr_const (v := 1) hx hb dL_isDivided_426 rfl ?_
                      refine lv_iand hx hb dL_isDivided_427 ?_
                      refine nr_top (bt_shr (by omega) (by omega)) ?_
                      refine nr_const (v := 1) hx hb dL_isDivided_428 rfl ?_
                      refine br_ine (tgt := 446) hx hb dL_isDivided_429 (by decide) (by omega) (by decide) (fun h15 => ?_) (fun h15 => ?_)
                      · exact absurd hLn h15
                      · skip
                        refine lv_iload hx hb dL_isDivided_432 (lv_at hl 1 rfl) ?_
                        refine lv_aload_n hx hb dL_isDivided_434 rfl (lv_at hl 9 rfl) ?_
                        refine nr_const (v := 1) hx hb dL_isDivided_435 rfl ?_
                        refine k_total ⟨hx, hb, hml, hown, hts⟩ (cwV 1 hts gL_isDivided_X5_total rfl rfl rfl (by decide +kernel) ⟨Nat.le_of_ble_eq_true rfl, Nat.le_of_ble_eq_true rfl⟩) hK hNW hAA (by decide) hO hS hl.1 (Nat.le_of_ble_eq_true rfl) dL_isDivided_436 ⟨Nat.zero_le _, Nat.zero_le _⟩ (fun H locs hO hS => ?_)
                        have hO : q_OB G AA c0 hbd (dM M A) (q_hM M) _ := hO
                        refine nr_top (y := nI ((dM M A) 198)) (to_1) ?_
                        refine nr_top (y := nI (M 198)) (congrArg nI (dM_ag M A 198 (by decide) (by decide)).symm) ?_
                        refine br_ine (tgt := 446) hx hb dL_isDivided_439 (by decide) (by omega) (by omega) (fun h16 => ?_) (fun h16 => ?_)
                        · exact absurd rfl h16
                        · skip
                          refine nr_const (v := 1) hx hb dL_isDivided_442 rfl ?_
                          refine lv_goto (tgt := 447) hx hb dL_isDivided_443 (by decide) ?_
                          exact obretz (post := fun (r : Int32) (u : Nat → Nat) => r = nI 1 ∧ (q_iv (hbd + 64) u)) (ob := fun (u : Nat → Nat) => q_OB G AA c0 (hbd + 64) u q_hT) hx hb hr hlk hS (dM M A) (q_OB_T (q_OB_le hO (by omega))) ⟨rfl, q_iv_le hdv (by omega)⟩ dL_isDivided_447
                  · skip
                    have hpc := pc4_le (dO M A) c
                    have hbc := bt_lt A c
                    have hhl := dheld_le h0k hA0 hA (n := c) (by omega)
                    refine lv_iload hx hb dL_isDivided_376 (lv_at hl 0 rfl) ?_
                    refine lv_aload_n hx hb dL_isDivided_378 rfl (lv_at hl 9 rfl) ?_
                    refine lv_iload hx hb dL_isDivided_379 (lv_at hl 11 rfl) ?_
                    refine nr_const (v := 4) hx hb dL_isDivided_381 rfl ?_
                    refine k_cousin ⟨hx, hb, hml, hown, hts⟩ (cwV 2 hts gL_isDivided_X5_cousin rfl rfl rfl (by decide +kernel) ⟨Nat.le_of_ble_eq_true rfl, Nat.le_of_ble_eq_true rfl⟩) hK hNW hAA  hO hS hl.1 (Nat.le_of_ble_eq_true rfl) dL_isDivided_382 ⟨Nat.zero_le _, Nat.zero_le _⟩ (fun H locs hO hS => ?_)
                    have hO : q_OB G AA c0 hbd (dM M A) (q_hM M) _ := hO
                    refine nr_top (y := nI (pc4 (ow (dM M A) 0) c)) (cz_4 (by omega)) ?_
                    refine nr_top (y := nI (pc4 (dO M A) c)) (congrArg nI dM_pc) ?_
                    refine nr_add hx hb dL_isDivided_385 ?_
                    refine lv_istore (lv' := [(12, .int (nI ((sm (fun j => pc4 (dO M A) j) c) + (pc4 (dO M A) c)))), (9, .int (nI (M 198))), (8, .int (nI (M 200))), (7, .int (nI (M 199))), (6, .int (nI (dL M A))), (5, .int (nI (dO M A 0))), (4, .int (nI (es M (dO M A) 127 127))), (3, .int (nI (dU M A))), (2, .int (nI (dT_ M A))), (0, .ref c0), (1, .int (nI A)), (13, .int (nI c))]) hx hb dL_isDivided_386 hl (by decide) rfl (fun ls hl => ?_)
                    refine lv_iload_n hx hb dL_isDivided_388 rfl (lv_at hl 10 rfl) ?_
                    refine lv_iload hx hb dL_isDivided_389 (lv_at hl 11 rfl) ?_
                    refine lv_ishr hx hb dL_isDivided_391 ?_
                    refine nr_const (v := 1) hx hb dL_isDivided_392 rfl ?_
                    refine lv_iand hx hb dL_isDivided_393 ?_
                    refine nr_top (bt_shr (by omega) (by omega)) ?_
                    refine br_ne0 (tgt := 409) hx hb dL_isDivided_394 (by decide) (by omega) (fun h17 => ?_) (fun h17 => ?_)
                    · skip
                      refine nr_inc (d := 1) (v := c + 1) (lv' := [(13, .int (nI (c + 1))), (12, .int (nI ((sm (fun j => pc4 (dO M A) j) c) + (pc4 (dO M A) c)))), (9, .int (nI (M 198))), (8, .int (nI (M 200))), (7, .int (nI (M 199))), (6, .int (nI (dL M A))), (5, .int (nI (dO M A 0))), (4, .int (nI (es M (dO M A) 127 127))), (3, .int (nI (dU M A))), (2, .int (nI (dT_ M A))), (0, .ref c0), (1, .int (nI A))]) hx hb dL_isDivided_409 hl (k := 11) rfl rfl (by decide) rfl (fun ls hl => ?_)
                      refine lv_goto (tgt := 369) hx hb dL_isDivided_412 (by decide) ?_
                      exact ih11 (c + 1) ls H locs (lv_sub hl [1, 2, 3, 4, 5, 6, 7, 8, 9, 10, 11, 0] rfl) hO hS (by omega) (by omega)
                    · skip
                      have hb1 : ¬ bt A c = 1 := (by omega)
                      refine lv_aload_n hx hb dL_isDivided_397 rfl (lv_at hl 9 rfl) ?_
                      refine lv_iload hx hb dL_isDivided_398 (lv_at hl 11 rfl) ?_
                      refine nr_const (v := 4) hx hb dL_isDivided_400 rfl ?_
                      refine k_cousin ⟨hx, hb, hml, hown, hts⟩ (cwV 2 hts gL_isDivided_X5_cousin rfl rfl rfl (by decide +kernel) ⟨Nat.le_of_ble_eq_true rfl, Nat.le_of_ble_eq_true rfl⟩) hK hNW hAA  hO hS hl.1 (Nat.le_of_ble_eq_true rfl) dL_isDivided_401 ⟨Nat.zero_le _, Nat.zero_le _⟩ (fun H locs hO hS => ?_)
                      have hO : q_OB G AA c0 hbd (dM M A) (q_hM M) _ := hO
                      refine nr_top (y := nI (pc4 (ow (dM M A) 0) c)) (cz_4 (by omega)) ?_
                      refine nr_top (y := nI (pc4 (dO M A) c)) (congrArg nI dM_pc) ?_
                      refine br_le0 (tgt := 409) hx hb dL_isDivided_404 (by decide) (by omega) (fun h18 => ?_) (fun h18 => ?_)
                      · skip
                        refine nr_inc (d := 1) (v := c + 1) (lv' := [(13, .int (nI (c + 1))), (12, .int (nI ((sm (fun j => pc4 (dO M A) j) c) + (pc4 (dO M A) c)))), (9, .int (nI (M 198))), (8, .int (nI (M 200))), (7, .int (nI (M 199))), (6, .int (nI (dL M A))), (5, .int (nI (dO M A 0))), (4, .int (nI (es M (dO M A) 127 127))), (3, .int (nI (dU M A))), (2, .int (nI (dT_ M A))), (0, .ref c0), (1, .int (nI A))]) hx hb dL_isDivided_409 hl (k := 11) rfl rfl (by decide) rfl (fun ls hl => ?_)
                        refine lv_goto (tgt := 369) hx hb dL_isDivided_412 (by decide) ?_
                        exact ih11 (c + 1) ls H locs (lv_sub hl [1, 2, 3, 4, 5, 6, 7, 8, 9, 10, 11, 0] rfl) hO hS (by omega) (by omega)
                      · exact absurd (dnone h0k hA0 hA hb1) h18
                · skip
                  refine lv_iload hx hb dL_isDivided_147 (lv_at hl 0 rfl) ?_
                  refine nr_bi (v := 24) hx hb dL_isDivided_149 (by decide +kernel) ?_
                  refine br_ige (tgt := 164) hx hb dL_isDivided_151 (by decide) (by omega) (by decide) (fun h19 => ?_) (fun h19 => ?_)
                  · skip
                    refine nr_bi (v := 7) hx hb dL_isDivided_164 (by decide +kernel) ?_
                    refine lv_istore (lv' := [(12, .int (nI 7)), (11, .int (nI x.2)), (10, .int (nI x.1)), (9, .int (nI (M 198))), (8, .int (nI (M 200))), (7, .int (nI (M 199))), (6, .int (nI (dL M A))), (5, .int (nI (dO M A 0))), (4, .int (nI (es M (dO M A) 127 127))), (3, .int (nI (dU M A))), (2, .int (nI (dT_ M A))), (0, .ref c0), (1, .int (nI A))]) hx hb dL_isDivided_166 hl (by decide) rfl (fun ls hl => ?_)
                    refine lv_iload hx hb dL_isDivided_168 (lv_at hl 1 rfl) ?_
                    refine lv_istore (lv' := [(13, .int (nI x.2)), (12, .int (nI 7)), (11, .int (nI x.2)), (10, .int (nI x.1)), (9, .int (nI (M 198))), (8, .int (nI (M 200))), (7, .int (nI (M 199))), (6, .int (nI (dL M A))), (5, .int (nI (dO M A 0))), (4, .int (nI (es M (dO M A) 127 127))), (3, .int (nI (dU M A))), (2, .int (nI (dT_ M A))), (0, .ref c0), (1, .int (nI A))]) hx hb dL_isDivided_170 hl (by decide) rfl (fun ls hl => ?_)
                    refine loop_o (T := Nat) (nL := 18) (fun t => x.2 ≤ t ∧ t ≤ 24 ∧ ∀ k, x.2 ≤ k → k < t → dO M A k = 7) (fun t => 24 - t) (fun t => [(13, .int (nI t)), (12, .int (nI 7)), (11, .int (nI x.2)), (10, .int (nI x.1)), (9, .int (nI (M 198))), (8, .int (nI (M 200))), (7, .int (nI (M 199))), (6, .int (nI (dL M A))), (5, .int (nI (dO M A 0))), (4, .int (nI (es M (dO M A) 127 127))), (3, .int (nI (dU M A))), (2, .int (nI (dT_ M A))), (0, .ref c0), (1, .int (nI A))]) (fun t => q_OB G AA c0 hbd (dM M A) (q_hM M)) ?_ x.2 (lv_sub hl [0, 1, 2, 3, 4, 5, 6, 7, 8, 9, 10, 11, 12, 13] rfl) hO hS ⟨Nat.le_refl _, hi_a, fun k h1 h2 => absurd h1 (by omega)⟩
                    intro t ls H locs hl hO hS hi21 ih20
                    obtain ⟨hi_t1, hi_t2, hi_t3⟩ := hi21
                    have hi_t1 : x.2 ≤ t := hi_t1
                    have hi_t2 : t ≤ 24 := hi_t2
                    have hi_t3 : ∀ k, x.2 ≤ k → k < t → dO M A k = 7 := hi_t3
                    have hO : q_OB G AA c0 hbd (dM M A) (q_hM M) _ := hO
                    have hl : lv_has ls 18 [(13, .int (nI t)), (12, .int (nI 7)), (11, .int (nI x.2)), (10, .int (nI x.1)), (9, .int (nI (M 198))), (8, .int (nI (M 200))), (7, .int (nI (M 199))), (6, .int (nI (dL M A))), (5, .int (nI (dO M A 0))), (4, .int (nI (es M (dO M A) 127 127))), (3, .int (nI (dU M A))), (2, .int (nI (dT_ M A))), (0, .ref c0), (1, .int (nI A))] := hl
                    refine lv_iload hx hb dL_isDivided_172 (lv_at hl 0 rfl) ?_
                    refine nr_bi (v := 24) hx hb dL_isDivided_174 (by decide +kernel) ?_
                    refine br_ige (tgt := 197) hx hb dL_isDivided_176 (by decide) (by omega) (by decide) (fun h22 => ?_) (fun h22 => ?_)
                    · skip
                      refine lv_iload hx hb dL_isDivided_197 (lv_at hl 1 rfl) ?_
                      refine nr_bi (v := 7) hx hb dL_isDivided_199 (by decide +kernel) ?_
                      refine br_ieq (tgt := 363) hx hb dL_isDivided_201 (by decide) (by decide) (by decide) (fun h23 => ?_) (fun h23 => ?_)
                      · skip
                        refine nr_const (v := 0) hx hb dL_isDivided_363 rfl ?_
                        refine lv_istore (lv' := [(12, .int (nI 0)), (13, .int (nI t)), (11, .int (nI x.2)), (10, .int (nI x.1)), (9, .int (nI (M 198))), (8, .int (nI (M 200))), (7, .int (nI (M 199))), (6, .int (nI (dL M A))), (5, .int (nI (dO M A 0))), (4, .int (nI (es M (dO M A) 127 127))), (3, .int (nI (dU M A))), (2, .int (nI (dT_ M A))), (0, .ref c0), (1, .int (nI A))]) hx hb dL_isDivided_364 hl (by decide) rfl (fun ls hl => ?_)
                        refine nr_const (v := 0) hx hb dL_isDivided_366 rfl ?_
                        refine lv_istore (lv' := [(13, .int (nI 0)), (12, .int (nI 0)), (11, .int (nI x.2)), (10, .int (nI x.1)), (9, .int (nI (M 198))), (8, .int (nI (M 200))), (7, .int (nI (M 199))), (6, .int (nI (dL M A))), (5, .int (nI (dO M A 0))), (4, .int (nI (es M (dO M A) 127 127))), (3, .int (nI (dU M A))), (2, .int (nI (dT_ M A))), (0, .ref c0), (1, .int (nI A))]) hx hb dL_isDivided_367 hl (by decide) rfl (fun ls hl => ?_)
                        refine loop_o (T := Nat) (nL := 18) (fun c => c ≤ 7) (fun c => 7 - c) (fun c => [(12, .int (nI (sm (fun j => pc4 (dO M A) j) c))), (9, .int (nI (M 198))), (8, .int (nI (M 200))), (7, .int (nI (M 199))), (6, .int (nI (dL M A))), (5, .int (nI (dO M A 0))), (4, .int (nI (es M (dO M A) 127 127))), (3, .int (nI (dU M A))), (2, .int (nI (dT_ M A))), (0, .ref c0), (1, .int (nI A)), (13, .int (nI c))]) (fun c => q_OB G AA c0 hbd (dM M A) (q_hM M)) ?_ 0 (lv_sub hl [1, 4, 5, 6, 7, 8, 9, 10, 11, 12, 13, 0] rfl) hO hS (by omega)
                        intro c ls H locs hl hO hS hi25 ih24
                        have hi25_0 := hi25
                        have hi25_0 : c ≤ 7 := hi25_0
                        have hO : q_OB G AA c0 hbd (dM M A) (q_hM M) _ := hO
                        have hl : lv_has ls 18 [(12, .int (nI (sm (fun j => pc4 (dO M A) j) c))), (9, .int (nI (M 198))), (8, .int (nI (M 200))), (7, .int (nI (M 199))), (6, .int (nI (dL M A))), (5, .int (nI (dO M A 0))), (4, .int (nI (es M (dO M A) 127 127))), (3, .int (nI (dU M A))), (2, .int (nI (dT_ M A))), (0, .ref c0), (1, .int (nI A)), (13, .int (nI c))] := hl
                        refine lv_iload hx hb dL_isDivided_369 (lv_at hl 11 rfl) ?_
                        refine nr_bi (v := 7) hx hb dL_isDivided_371 (by decide +kernel) ?_
                        refine br_ige (tgt := 415) hx hb dL_isDivided_373 (by decide) (by omega) (by decide) (fun h26 => ?_) (fun h26 => ?_)
                        · skip
                          have e2 : c = 7 := (by omega)
                          subst e2
                          have hl : lv_has ls 18 [(12, .int (nI (sm (fun j => pc4 (dO M A) j) 7))), (9, .int (nI (M 198))), (8, .int (nI (M 200))), (7, .int (nI (M 199))), (6, .int (nI (dL M A))), (5, .int (nI (dO M A 0))), (4, .int (nI (es M (dO M A) 127 127))), (3, .int (nI (dU M A))), (2, .int (nI (dT_ M A))), (0, .ref c0), (1, .int (nI A)), (13, .int (nI 7))] := hl
                          rw [dheld h0k hA0 hA] at hl
                          have hl : lv_has ls 18 [(12, .int (nI 24)), (9, .int (nI (M 198))), (8, .int (nI (M 200))), (7, .int (nI (M 199))), (6, .int (nI (dL M A))), (5, .int (nI (dO M A 0))), (4, .int (nI (es M (dO M A) 127 127))), (3, .int (nI (dU M A))), (2, .int (nI (dT_ M A))), (0, .ref c0), (1, .int (nI A)), (13, .int (nI 7))] := hl
                          refine lv_iload hx hb dL_isDivided_415 (lv_at hl 0 rfl) ?_
                          refine nr_bi (v := 24) hx hb dL_isDivided_417 (by decide +kernel) ?_
                          refine br_ine (tgt := 446) hx hb dL_isDivided_419 (by decide) (by decide) (by decide) (fun h27 => ?_) (fun h27 => ?_)
                          · exact absurd (by decide) h27
                          · skip
                            refine lv_iload_n hx hb dL_isDivided_422 rfl (lv_at hl 10 rfl) ?_
                            refine lv_iload hx hb dL_isDivided_423 (lv_at hl 4 rfl) ?_
                            refine lv_ishr hx hb dL_isDivided_425 ?_
                            refine nr_const (v := 1) hx hb dL_isDivided_426 rfl ?_
                            refine lv_iand hx hb dL_isDivided_427 ?_
                            refine nr_top (bt_shr (by omega) (by omega)) ?_
                            refine nr_const (v := 1) hx hb dL_isDivided_428 rfl ?_
                            refine br_ine (tgt := 446) hx hb dL_isDivided_429 (by decide) (by omega) (by decide) (fun h28 => ?_) (fun h28 => ?_)
                            · exact absurd hLn h28
                            · skip
                              refine lv_iload hx hb dL_isDivided_432 (lv_at hl 1 rfl) ?_
                              refine lv_aload_n hx hb dL_isDivided_434 rfl (lv_at hl 9 rfl) ?_
                              refine nr_const (v := 1) hx hb dL_isDivided_435 rfl ?_
                              refine k_total ⟨hx, hb, hml, hown, hts⟩ (cwV 1 hts gL_isDivided_X5_total rfl rfl rfl (by decide +kernel) ⟨Nat.le_of_ble_eq_true rfl, Nat.le_of_ble_eq_true rfl⟩) hK hNW hAA (by decide) hO hS hl.1 (Nat.le_of_ble_eq_true rfl) dL_isDivided_436 ⟨Nat.zero_le _, Nat.zero_le _⟩ (fun H locs hO hS => ?_)
                              have hO : q_OB G AA c0 hbd (dM M A) (q_hM M) _ := hO
                              refine nr_top (y := nI ((dM M A) 198)) (to_1) ?_
                              refine nr_top (y := nI (M 198)) (congrArg nI (dM_ag M A 198 (by decide) (by decide)).symm) ?_
                              refine br_ine (tgt := 446) hx hb dL_isDivided_439 (by decide) (by omega) (by omega) (fun h29 => ?_) (fun h29 => ?_)
                              · exact absurd rfl h29
                              · skip
                                refine nr_const (v := 1) hx hb dL_isDivided_442 rfl ?_
                                refine lv_goto (tgt := 447) hx hb dL_isDivided_443 (by decide) ?_
                                exact obretz (post := fun (r : Int32) (u : Nat → Nat) => r = nI 1 ∧ (q_iv (hbd + 64) u)) (ob := fun (u : Nat → Nat) => q_OB G AA c0 (hbd + 64) u q_hT) hx hb hr hlk hS (dM M A) (q_OB_T (q_OB_le hO (by omega))) ⟨rfl, q_iv_le hdv (by omega)⟩ dL_isDivided_447
                        · skip
                          have hpc := pc4_le (dO M A) c
                          have hbc := bt_lt A c
                          have hhl := dheld_le h0k hA0 hA (n := c) (by omega)
                          refine lv_iload hx hb dL_isDivided_376 (lv_at hl 0 rfl) ?_
                          refine lv_aload_n hx hb dL_isDivided_378 rfl (lv_at hl 9 rfl) ?_
                          refine lv_iload hx hb dL_isDivided_379 (lv_at hl 11 rfl) ?_
                          refine nr_const (v := 4) hx hb dL_isDivided_381 rfl ?_
                          refine k_cousin ⟨hx, hb, hml, hown, hts⟩ (cwV 2 hts gL_isDivided_X5_cousin rfl rfl rfl (by decide +kernel) ⟨Nat.le_of_ble_eq_true rfl, Nat.le_of_ble_eq_true rfl⟩) hK hNW hAA  hO hS hl.1 (Nat.le_of_ble_eq_true rfl) dL_isDivided_382 ⟨Nat.zero_le _, Nat.zero_le _⟩ (fun H locs hO hS => ?_)
                          have hO : q_OB G AA c0 hbd (dM M A) (q_hM M) _ := hO
                          refine nr_top (y := nI (pc4 (ow (dM M A) 0) c)) (cz_4 (by omega)) ?_
                          refine nr_top (y := nI (pc4 (dO M A) c)) (congrArg nI dM_pc) ?_
                          refine nr_add hx hb dL_isDivided_385 ?_
                          refine lv_istore (lv' := [(12, .int (nI ((sm (fun j => pc4 (dO M A) j) c) + (pc4 (dO M A) c)))), (9, .int (nI (M 198))), (8, .int (nI (M 200))), (7, .int (nI (M 199))), (6, .int (nI (dL M A))), (5, .int (nI (dO M A 0))), (4, .int (nI (es M (dO M A) 127 127))), (3, .int (nI (dU M A))), (2, .int (nI (dT_ M A))), (0, .ref c0), (1, .int (nI A)), (13, .int (nI c))]) hx hb dL_isDivided_386 hl (by decide) rfl (fun ls hl => ?_)
                          refine lv_iload_n hx hb dL_isDivided_388 rfl (lv_at hl 10 rfl) ?_
                          refine lv_iload hx hb dL_isDivided_389 (lv_at hl 11 rfl) ?_
                          refine lv_ishr hx hb dL_isDivided_391 ?_
                          refine nr_const (v := 1) hx hb dL_isDivided_392 rfl ?_
                          refine lv_iand hx hb dL_isDivided_393 ?_
                          refine nr_top (bt_shr (by omega) (by omega)) ?_
                          refine br_ne0 (tgt := 409) hx hb dL_isDivided_394 (by decide) (by omega) (fun h30 => ?_) (fun h30 => ?_)
                          · skip
                            refine nr_inc (d := 1) (v := c + 1) (lv' := [(13, .int (nI (c + 1))), (12, .int (nI ((sm (fun j => pc4 (dO M A) j) c) + (pc4 (dO M A) c)))), (9, .int (nI (M 198))), (8, .int (nI (M 200))), (7, .int (nI (M 199))), (6, .int (nI (dL M A))), (5, .int (nI (dO M A 0))), (4, .int (nI (es M (dO M A) 127 127))), (3, .int (nI (dU M A))), (2, .int (nI (dT_ M A))), (0, .ref c0), (1, .int (nI A))]) hx hb dL_isDivided_409 hl (k := 11) rfl rfl (by decide) rfl (fun ls hl => ?_)
                            refine lv_goto (tgt := 369) hx hb dL_isDivided_412 (by decide) ?_
                            exact ih24 (c + 1) ls H locs (lv_sub hl [1, 2, 3, 4, 5, 6, 7, 8, 9, 10, 11, 0] rfl) hO hS (by omega) (by omega)
                          · skip
                            have hb1 : ¬ bt A c = 1 := (by omega)
                            refine lv_aload_n hx hb dL_isDivided_397 rfl (lv_at hl 9 rfl) ?_
                            refine lv_iload hx hb dL_isDivided_398 (lv_at hl 11 rfl) ?_
                            refine nr_const (v := 4) hx hb dL_isDivided_400 rfl ?_
                            refine k_cousin ⟨hx, hb, hml, hown, hts⟩ (cwV 2 hts gL_isDivided_X5_cousin rfl rfl rfl (by decide +kernel) ⟨Nat.le_of_ble_eq_true rfl, Nat.le_of_ble_eq_true rfl⟩) hK hNW hAA  hO hS hl.1 (Nat.le_of_ble_eq_true rfl) dL_isDivided_401 ⟨Nat.zero_le _, Nat.zero_le _⟩ (fun H locs hO hS => ?_)
                            have hO : q_OB G AA c0 hbd (dM M A) (q_hM M) _ := hO
                            refine nr_top (y := nI (pc4 (ow (dM M A) 0) c)) (cz_4 (by omega)) ?_
                            refine nr_top (y := nI (pc4 (dO M A) c)) (congrArg nI dM_pc) ?_
                            refine br_le0 (tgt := 409) hx hb dL_isDivided_404 (by decide) (by omega) (fun h31 => ?_) (fun h31 => ?_)
                            · skip
                              refine nr_inc (d := 1) (v := c + 1) (lv' := [(13, .int (nI (c + 1))), (12, .int (nI ((sm (fun j => pc4 (dO M A) j) c) + (pc4 (dO M A) c)))), (9, .int (nI (M 198))), (8, .int (nI (M 200))), (7, .int (nI (M 199))), (6, .int (nI (dL M A))), (5, .int (nI (dO M A 0))), (4, .int (nI (es M (dO M A) 127 127))), (3, .int (nI (dU M A))), (2, .int (nI (dT_ M A))), (0, .ref c0), (1, .int (nI A))]) hx hb dL_isDivided_409 hl (k := 11) rfl rfl (by decide) rfl (fun ls hl => ?_)
                              refine lv_goto (tgt := 369) hx hb dL_isDivided_412 (by decide) ?_
                              exact ih24 (c + 1) ls H locs (lv_sub hl [1, 2, 3, 4, 5, 6, 7, 8, 9, 10, 11, 0] rfl) hO hS (by omega) (by omega)
                            · exact absurd (dnone h0k hA0 hA hb1) h31
                      · exact absurd (by decide) h23
                    · skip
                      have hot := (dO_in h0k hA0 hA (k := t) (by omega)).1
                      refine lv_aload_n hx hb dL_isDivided_179 rfl (lv_at hl 12 rfl) ?_
                      refine lv_iload hx hb dL_isDivided_180 (lv_at hl 0 rfl) ?_
                      refine nr_const (v := 4) hx hb dL_isDivided_182 rfl ?_
                      refine k_plot ⟨hx, hb, hml, hown, hts⟩ (cwV 2 hts gL_isDivided_X5_plot rfl rfl rfl (by decide +kernel) ⟨Nat.le_of_ble_eq_true rfl, Nat.le_of_ble_eq_true rfl⟩) hK hNW hAA  hO hS hl.1 (Nat.le_of_ble_eq_true rfl) dL_isDivided_183 ⟨Nat.zero_le _, Nat.zero_le _⟩ ?_
                      refine nr_top (y := nI (ow (dM M A) 0 t)) (pl_o (by omega)) ?_
                      refine nr_top (y := nI (dO M A t)) (congrArg nI (dM_ow (by omega))) ?_
                      refine lv_iload hx hb dL_isDivided_186 (lv_at hl 1 rfl) ?_
                      refine br_ine (tgt := 197) hx hb dL_isDivided_188 (by decide) (by omega) (by decide) (fun h32 => ?_) (fun h32 => ?_)
                      · skip
                        refine lv_iload hx hb dL_isDivided_197 (lv_at hl 1 rfl) ?_
                        refine nr_bi (v := 7) hx hb dL_isDivided_199 (by decide +kernel) ?_
                        refine br_ieq (tgt := 363) hx hb dL_isDivided_201 (by decide) (by decide) (by decide) (fun h33 => ?_) (fun h33 => ?_)
                        · skip
                          refine nr_const (v := 0) hx hb dL_isDivided_363 rfl ?_
                          refine lv_istore (lv' := [(12, .int (nI 0)), (13, .int (nI t)), (11, .int (nI x.2)), (10, .int (nI x.1)), (9, .int (nI (M 198))), (8, .int (nI (M 200))), (7, .int (nI (M 199))), (6, .int (nI (dL M A))), (5, .int (nI (dO M A 0))), (4, .int (nI (es M (dO M A) 127 127))), (3, .int (nI (dU M A))), (2, .int (nI (dT_ M A))), (0, .ref c0), (1, .int (nI A))]) hx hb dL_isDivided_364 hl (by decide) rfl (fun ls hl => ?_)
                          refine nr_const (v := 0) hx hb dL_isDivided_366 rfl ?_
                          refine lv_istore (lv' := [(13, .int (nI 0)), (12, .int (nI 0)), (11, .int (nI x.2)), (10, .int (nI x.1)), (9, .int (nI (M 198))), (8, .int (nI (M 200))), (7, .int (nI (M 199))), (6, .int (nI (dL M A))), (5, .int (nI (dO M A 0))), (4, .int (nI (es M (dO M A) 127 127))), (3, .int (nI (dU M A))), (2, .int (nI (dT_ M A))), (0, .ref c0), (1, .int (nI A))]) hx hb dL_isDivided_367 hl (by decide) rfl (fun ls hl => ?_)
                          refine loop_o (T := Nat) (nL := 18) (fun c => c ≤ 7) (fun c => 7 - c) (fun c => [(12, .int (nI (sm (fun j => pc4 (dO M A) j) c))), (9, .int (nI (M 198))), (8, .int (nI (M 200))), (7, .int (nI (M 199))), (6, .int (nI (dL M A))), (5, .int (nI (dO M A 0))), (4, .int (nI (es M (dO M A) 127 127))), (3, .int (nI (dU M A))), (2, .int (nI (dT_ M A))), (0, .ref c0), (1, .int (nI A)), (13, .int (nI c))]) (fun c => q_OB G AA c0 hbd (dM M A) (q_hM M)) ?_ 0 (lv_sub hl [1, 4, 5, 6, 7, 8, 9, 10, 11, 12, 13, 0] rfl) hO hS (by omega)
                          intro c ls H locs hl hO hS hi35 ih34
                          have hi35_0 := hi35
                          have hi35_0 : c ≤ 7 := hi35_0
                          have hO : q_OB G AA c0 hbd (dM M A) (q_hM M) _ := hO
                          have hl : lv_has ls 18 [(12, .int (nI (sm (fun j => pc4 (dO M A) j) c))), (9, .int (nI (M 198))), (8, .int (nI (M 200))), (7, .int (nI (M 199))), (6, .int (nI (dL M A))), (5, .int (nI (dO M A 0))), (4, .int (nI (es M (dO M A) 127 127))), (3, .int (nI (dU M A))), (2, .int (nI (dT_ M A))), (0, .ref c0), (1, .int (nI A)), (13, .int (nI c))] := hl
                          refine lv_iload hx hb dL_isDivided_369 (lv_at hl 11 rfl) ?_
                          refine nr_bi (v := 7) hx hb dL_isDivided_371 (by decide +kernel) ?_
                          refine br_ige (tgt := 415) hx hb dL_isDivided_373 (by decide) (by omega) (by decide) (fun h36 => ?_) (fun h36 => ?_)
                          · skip
                            have e2 : c = 7 := (by omega)
                            subst e2
                            have hl : lv_has ls 18 [(12, .int (nI (sm (fun j => pc4 (dO M A) j) 7))), (9, .int (nI (M 198))), (8, .int (nI (M 200))), (7, .int (nI (M 199))), (6, .int (nI (dL M A))), (5, .int (nI (dO M A 0))), (4, .int (nI (es M (dO M A) 127 127))), (3, .int (nI (dU M A))), (2, .int (nI (dT_ M A))), (0, .ref c0), (1, .int (nI A)), (13, .int (nI 7))] := hl
                            rw [dheld h0k hA0 hA] at hl
                            have hl : lv_has ls 18 [(12, .int (nI 24)), (9, .int (nI (M 198))), (8, .int (nI (M 200))), (7, .int (nI (M 199))), (6, .int (nI (dL M A))), (5, .int (nI (dO M A 0))), (4, .int (nI (es M (dO M A) 127 127))), (3, .int (nI (dU M A))), (2, .int (nI (dT_ M A))), (0, .ref c0), (1, .int (nI A)), (13, .int (nI 7))] := hl
                            refine lv_iload hx hb dL_isDivided_415 (lv_at hl 0 rfl) ?_
                            refine nr_bi (v := 24) hx hb dL_isDivided_417 (by decide +kernel) ?_
                            refine br_ine (tgt := 446) hx hb dL_isDivided_419 (by decide) (by decide) (by decide) (fun h37 => ?_) (fun h37 => ?_)
                            · exact absurd (by decide) h37
                            · skip
                              refine lv_iload_n hx hb dL_isDivided_422 rfl (lv_at hl 10 rfl) ?_
                              refine lv_iload hx hb dL_isDivided_423 (lv_at hl 4 rfl) ?_
                              refine lv_ishr hx hb dL_isDivided_425 ?_
                              refine nr_const (v := 1) hx hb dL_isDivided_426 rfl ?_
                              refine lv_iand hx hb dL_isDivided_427 ?_
                              refine nr_top (bt_shr (by omega) (by omega)) ?_
                              refine nr_const (v := 1) hx hb dL_isDivided_428 rfl ?_
                              refine br_ine (tgt := 446) hx hb dL_isDivided_429 (by decide) (by omega) (by decide) (fun h38 => ?_) (fun h38 => ?_)
                              · exact absurd hLn h38
                              · skip
                                refine lv_iload hx hb dL_isDivided_432 (lv_at hl 1 rfl) ?_
                                refine lv_aload_n hx hb dL_isDivided_434 rfl (lv_at hl 9 rfl) ?_
                                refine nr_const (v := 1) hx hb dL_isDivided_435 rfl ?_
                                refine k_total ⟨hx, hb, hml, hown, hts⟩ (cwV 1 hts gL_isDivided_X5_total rfl rfl rfl (by decide +kernel) ⟨Nat.le_of_ble_eq_true rfl, Nat.le_of_ble_eq_true rfl⟩) hK hNW hAA (by decide) hO hS hl.1 (Nat.le_of_ble_eq_true rfl) dL_isDivided_436 ⟨Nat.zero_le _, Nat.zero_le _⟩ (fun H locs hO hS => ?_)
                                have hO : q_OB G AA c0 hbd (dM M A) (q_hM M) _ := hO
                                refine nr_top (y := nI ((dM M A) 198)) (to_1) ?_
                                refine nr_top (y := nI (M 198)) (congrArg nI (dM_ag M A 198 (by decide) (by decide)).symm) ?_
                                refine br_ine (tgt := 446) hx hb dL_isDivided_439 (by decide) (by omega) (by omega) (fun h39 => ?_) (fun h39 => ?_)
                                · exact absurd rfl h39
                                · skip
                                  refine nr_const (v := 1) hx hb dL_isDivided_442 rfl ?_
                                  refine lv_goto (tgt := 447) hx hb dL_isDivided_443 (by decide) ?_
                                  exact obretz (post := fun (r : Int32) (u : Nat → Nat) => r = nI 1 ∧ (q_iv (hbd + 64) u)) (ob := fun (u : Nat → Nat) => q_OB G AA c0 (hbd + 64) u q_hT) hx hb hr hlk hS (dM M A) (q_OB_T (q_OB_le hO (by omega))) ⟨rfl, q_iv_le hdv (by omega)⟩ dL_isDivided_447
                          · skip
                            have hpc := pc4_le (dO M A) c
                            have hbc := bt_lt A c
                            have hhl := dheld_le h0k hA0 hA (n := c) (by omega)
                            refine lv_iload hx hb dL_isDivided_376 (lv_at hl 0 rfl) ?_
                            refine lv_aload_n hx hb dL_isDivided_378 rfl (lv_at hl 9 rfl) ?_
                            refine lv_iload hx hb dL_isDivided_379 (lv_at hl 11 rfl) ?_
                            refine nr_const (v := 4) hx hb dL_isDivided_381 rfl ?_
                            refine k_cousin ⟨hx, hb, hml, hown, hts⟩ (cwV 2 hts gL_isDivided_X5_cousin rfl rfl rfl (by decide +kernel) ⟨Nat.le_of_ble_eq_true rfl, Nat.le_of_ble_eq_true rfl⟩) hK hNW hAA  hO hS hl.1 (Nat.le_of_ble_eq_true rfl) dL_isDivided_382 ⟨Nat.zero_le _, Nat.zero_le _⟩ (fun H locs hO hS => ?_)
                            have hO : q_OB G AA c0 hbd (dM M A) (q_hM M) _ := hO
                            refine nr_top (y := nI (pc4 (ow (dM M A) 0) c)) (cz_4 (by omega)) ?_
                            refine nr_top (y := nI (pc4 (dO M A) c)) (congrArg nI dM_pc) ?_
                            refine nr_add hx hb dL_isDivided_385 ?_
                            refine lv_istore (lv' := [(12, .int (nI ((sm (fun j => pc4 (dO M A) j) c) + (pc4 (dO M A) c)))), (9, .int (nI (M 198))), (8, .int (nI (M 200))), (7, .int (nI (M 199))), (6, .int (nI (dL M A))), (5, .int (nI (dO M A 0))), (4, .int (nI (es M (dO M A) 127 127))), (3, .int (nI (dU M A))), (2, .int (nI (dT_ M A))), (0, .ref c0), (1, .int (nI A)), (13, .int (nI c))]) hx hb dL_isDivided_386 hl (by decide) rfl (fun ls hl => ?_)
                            refine lv_iload_n hx hb dL_isDivided_388 rfl (lv_at hl 10 rfl) ?_
                            refine lv_iload hx hb dL_isDivided_389 (lv_at hl 11 rfl) ?_
                            refine lv_ishr hx hb dL_isDivided_391 ?_
                            refine nr_const (v := 1) hx hb dL_isDivided_392 rfl ?_
                            refine lv_iand hx hb dL_isDivided_393 ?_
                            refine nr_top (bt_shr (by omega) (by omega)) ?_
                            refine br_ne0 (tgt := 409) hx hb dL_isDivided_394 (by decide) (by omega) (fun h40 => ?_) (fun h40 => ?_)
                            · skip
                              refine nr_inc (d := 1) (v := c + 1) (lv' := [(13, .int (nI (c + 1))), (12, .int (nI ((sm (fun j => pc4 (dO M A) j) c) + (pc4 (dO M A) c)))), (9, .int (nI (M 198))), (8, .int (nI (M 200))), (7, .int (nI (M 199))), (6, .int (nI (dL M A))), (5, .int (nI (dO M A 0))), (4, .int (nI (es M (dO M A) 127 127))), (3, .int (nI (dU M A))), (2, .int (nI (dT_ M A))), (0, .ref c0), (1, .int (nI A))]) hx hb dL_isDivided_409 hl (k := 11) rfl rfl (by decide) rfl (fun ls hl => ?_)
                              refine lv_goto (tgt := 369) hx hb dL_isDivided_412 (by decide) ?_
                              exact ih34 (c + 1) ls H locs (lv_sub hl [1, 2, 3, 4, 5, 6, 7, 8, 9, 10, 11, 0] rfl) hO hS (by omega) (by omega)
                            · skip
                              have hb1 : ¬ bt A c = 1 := (by omega)
                              refine lv_aload_n hx hb dL_isDivided_397 rfl (lv_at hl 9 rfl) ?_
                              refine lv_iload hx hb dL_isDivided_398 (lv_at hl 11 rfl) ?_
                              refine nr_const (v := 4) hx hb dL_isDivided_400 rfl ?_
                              refine k_cousin ⟨hx, hb, hml, hown, hts⟩ (cwV 2 hts gL_isDivided_X5_cousin rfl rfl rfl (by decide +kernel) ⟨Nat.le_of_ble_eq_true rfl, Nat.le_of_ble_eq_true rfl⟩) hK hNW hAA  hO hS hl.1 (Nat.le_of_ble_eq_true rfl) dL_isDivided_401 ⟨Nat.zero_le _, Nat.zero_le _⟩ (fun H locs hO hS => ?_)
                              have hO : q_OB G AA c0 hbd (dM M A) (q_hM M) _ := hO
                              refine nr_top (y := nI (pc4 (ow (dM M A) 0) c)) (cz_4 (by omega)) ?_
                              refine nr_top (y := nI (pc4 (dO M A) c)) (congrArg nI dM_pc) ?_
                              refine br_le0 (tgt := 409) hx hb dL_isDivided_404 (by decide) (by omega) (fun h41 => ?_) (fun h41 => ?_)
                              · skip
                                refine nr_inc (d := 1) (v := c + 1) (lv' := [(13, .int (nI (c + 1))), (12, .int (nI ((sm (fun j => pc4 (dO M A) j) c) + (pc4 (dO M A) c)))), (9, .int (nI (M 198))), (8, .int (nI (M 200))), (7, .int (nI (M 199))), (6, .int (nI (dL M A))), (5, .int (nI (dO M A 0))), (4, .int (nI (es M (dO M A) 127 127))), (3, .int (nI (dU M A))), (2, .int (nI (dT_ M A))), (0, .ref c0), (1, .int (nI A))]) hx hb dL_isDivided_409 hl (k := 11) rfl rfl (by decide) rfl (fun ls hl => ?_)
                                refine lv_goto (tgt := 369) hx hb dL_isDivided_412 (by decide) ?_
                                exact ih34 (c + 1) ls H locs (lv_sub hl [1, 2, 3, 4, 5, 6, 7, 8, 9, 10, 11, 0] rfl) hO hS (by omega) (by omega)
                              · exact absurd (dnone h0k hA0 hA hb1) h41
                        · exact absurd (by decide) h33
                      · skip
                        refine nr_inc (d := 1) (v := t + 1) (lv' := [(13, .int (nI (t + 1))), (12, .int (nI 7)), (11, .int (nI x.2)), (10, .int (nI x.1)), (9, .int (nI (M 198))), (8, .int (nI (M 200))), (7, .int (nI (M 199))), (6, .int (nI (dL M A))), (5, .int (nI (dO M A 0))), (4, .int (nI (es M (dO M A) 127 127))), (3, .int (nI (dU M A))), (2, .int (nI (dT_ M A))), (0, .ref c0), (1, .int (nI A))]) hx hb dL_isDivided_191 hl (k := 0) rfl rfl (by decide) rfl (fun ls hl => ?_)
                        refine lv_goto (tgt := 172) hx hb dL_isDivided_194 (by decide) ?_
                        exact ih20 (t + 1) ls H locs (lv_sub hl [0, 1, 2, 3, 4, 5, 6, 7, 8, 9, 10, 11, 12, 13] rfl) hO hS ⟨by omega, by omega, fun k h1 h2 => by rcases Nat.lt_or_ge k t with z | z; exact hi_t3 k h1 z; rw [show k = t by omega]; assumption⟩ (by omega)
                  · skip
                    refine lv_aload_n hx hb dL_isDivided_154 rfl (lv_at hl 10 rfl) ?_
                    refine lv_iload hx hb dL_isDivided_155 (lv_at hl 0 rfl) ?_
                    refine nr_const (v := 4) hx hb dL_isDivided_157 rfl ?_
                    refine k_plot ⟨hx, hb, hml, hown, hts⟩ (cwV 2 hts gL_isDivided_X5_plot rfl rfl rfl (by decide +kernel) ⟨Nat.le_of_ble_eq_true rfl, Nat.le_of_ble_eq_true rfl⟩) hK hNW hAA  hO hS hl.1 (Nat.le_of_ble_eq_true rfl) dL_isDivided_158 ⟨Nat.zero_le _, Nat.zero_le _⟩ ?_
                    refine nr_top (y := nI (ow (dM M A) 0 x.2)) (pl_o (by omega)) ?_
                    refine nr_top (y := nI (dO M A x.2)) (congrArg nI (dM_ow (by omega))) ?_
                    refine lv_goto (tgt := 166) hx hb dL_isDivided_161 (by decide) ?_
                    refine lv_istore (lv' := [(12, .int (nI (dO M A x.2))), (11, .int (nI x.2)), (10, .int (nI x.1)), (9, .int (nI (M 198))), (8, .int (nI (M 200))), (7, .int (nI (M 199))), (6, .int (nI (dL M A))), (5, .int (nI (dO M A 0))), (4, .int (nI (es M (dO M A) 127 127))), (3, .int (nI (dU M A))), (2, .int (nI (dT_ M A))), (0, .ref c0), (1, .int (nI A))]) hx hb dL_isDivided_166 hl (by decide) rfl (fun ls hl => ?_)
                    refine lv_iload hx hb dL_isDivided_168 (lv_at hl 1 rfl) ?_
                    refine lv_istore (lv' := [(13, .int (nI x.2)), (12, .int (nI (dO M A x.2))), (11, .int (nI x.2)), (10, .int (nI x.1)), (9, .int (nI (M 198))), (8, .int (nI (M 200))), (7, .int (nI (M 199))), (6, .int (nI (dL M A))), (5, .int (nI (dO M A 0))), (4, .int (nI (es M (dO M A) 127 127))), (3, .int (nI (dU M A))), (2, .int (nI (dT_ M A))), (0, .ref c0), (1, .int (nI A))]) hx hb dL_isDivided_170 hl (by decide) rfl (fun ls hl => ?_)
                    refine loop_o (T := Nat) (nL := 18) (fun t => x.2 ≤ t ∧ t ≤ 24 ∧ ∀ k, x.2 ≤ k → k < t → dO M A k = dO M A x.2) (fun t => 24 - t) (fun t => [(13, .int (nI t)), (12, .int (nI (dO M A x.2))), (11, .int (nI x.2)), (10, .int (nI x.1)), (9, .int (nI (M 198))), (8, .int (nI (M 200))), (7, .int (nI (M 199))), (6, .int (nI (dL M A))), (5, .int (nI (dO M A 0))), (4, .int (nI (es M (dO M A) 127 127))), (3, .int (nI (dU M A))), (2, .int (nI (dT_ M A))), (0, .ref c0), (1, .int (nI A))]) (fun t => q_OB G AA c0 hbd (dM M A) (q_hM M)) ?_ x.2 (lv_sub hl [0, 1, 2, 3, 4, 5, 6, 7, 8, 9, 10, 11, 12, 13] rfl) hO hS ⟨Nat.le_refl _, hi_a, fun k h1 h2 => absurd h1 (by omega)⟩
                    intro t ls H locs hl hO hS hi43 ih42
                    obtain ⟨hi_t1, hi_t2, hi_t3⟩ := hi43
                    have hi_t1 : x.2 ≤ t := hi_t1
                    have hi_t2 : t ≤ 24 := hi_t2
                    have hi_t3 : ∀ k, x.2 ≤ k → k < t → dO M A k = dO M A x.2 := hi_t3
                    have hO : q_OB G AA c0 hbd (dM M A) (q_hM M) _ := hO
                    have hl : lv_has ls 18 [(13, .int (nI t)), (12, .int (nI (dO M A x.2))), (11, .int (nI x.2)), (10, .int (nI x.1)), (9, .int (nI (M 198))), (8, .int (nI (M 200))), (7, .int (nI (M 199))), (6, .int (nI (dL M A))), (5, .int (nI (dO M A 0))), (4, .int (nI (es M (dO M A) 127 127))), (3, .int (nI (dU M A))), (2, .int (nI (dT_ M A))), (0, .ref c0), (1, .int (nI A))] := hl
                    refine lv_iload hx hb dL_isDivided_172 (lv_at hl 0 rfl) ?_
                    refine nr_bi (v := 24) hx hb dL_isDivided_174 (by decide +kernel) ?_
                    refine br_ige (tgt := 197) hx hb dL_isDivided_176 (by decide) (by omega) (by decide) (fun h44 => ?_) (fun h44 => ?_)
                    · skip
                      have hds := dstep h0k hA0 hA hi_i (by omega) hi_t1 hi_t2 hi_t3 (by first | exact Or.inr (by assumption) | exact Or.inl (by omega))
                      have hw7 := (dO_in h0k hA0 hA (k := x.2) (by omega)).1
                      refine lv_iload hx hb dL_isDivided_197 (lv_at hl 1 rfl) ?_
                      refine nr_bi (v := 7) hx hb dL_isDivided_199 (by decide +kernel) ?_
                      refine br_ieq (tgt := 363) hx hb dL_isDivided_201 (by decide) (Nat.lt_trans (dO_in h0k hA0 hA (by omega)).1 (by decide)) (by decide) (fun h45 => ?_) (fun h45 => ?_)
                      · exact absurd h45 (by omega)
                      · skip
                        refine lv_iload hx hb dL_isDivided_204 (lv_at hl 1 rfl) ?_
                        refine lv_iload hx hb dL_isDivided_206 (lv_at hl 7 rfl) ?_
                        refine br_ine (tgt := 221) hx hb dL_isDivided_208 (by decide) (Nat.lt_trans (dO_in h0k hA0 hA (by omega)).1 (by decide)) (by omega) (fun h46 => ?_) (fun h46 => ?_)
                        · skip
                          obtain ⟨hd1, hd2, hd3, hd4, hd5⟩ := hds.resolve_left (fun q => absurd q.1 (by assumption))
                          refine lv_iload hx hb dL_isDivided_221 (lv_at hl 3 rfl) ?_
                          refine lv_iload hx hb dL_isDivided_223 (lv_at hl 1 rfl) ?_
                          refine lv_ishr hx hb dL_isDivided_225 ?_
                          refine nr_const (v := 1) hx hb dL_isDivided_226 rfl ?_
                          refine lv_iand hx hb dL_isDivided_227 ?_
                          refine nr_top (bt_shr (by omega) (by omega)) ?_
                          refine br_ne0 (tgt := 233) hx hb dL_isDivided_228 (by decide) (by omega) (fun h47 => ?_) (fun h47 => ?_)
                          · skip
                            refine nr_const (v := 0) hx hb dL_isDivided_233 rfl ?_
                            refine lv_istore (lv' := [(14, .int (nI 0)), (13, .int (nI t)), (12, .int (nI (dO M A x.2))), (11, .int (nI x.2)), (10, .int (nI x.1)), (9, .int (nI (M 198))), (8, .int (nI (M 200))), (7, .int (nI (M 199))), (6, .int (nI (dL M A))), (5, .int (nI (dO M A 0))), (4, .int (nI (es M (dO M A) 127 127))), (3, .int (nI (dU M A))), (2, .int (nI (dT_ M A))), (0, .ref c0), (1, .int (nI A))]) hx hb dL_isDivided_234 hl (by decide) rfl (fun ls hl => ?_)
                            refine loop_o (T := Nat) (nL := 18) (fun c => c ≤ 7) (fun c => 7 - c) (fun c => [(14, .int (nI c)), (13, .int (nI t)), (12, .int (nI (dO M A x.2))), (11, .int (nI x.2)), (10, .int (nI x.1)), (9, .int (nI (M 198))), (8, .int (nI (M 200))), (7, .int (nI (M 199))), (6, .int (nI (dL M A))), (5, .int (nI (dO M A 0))), (4, .int (nI (es M (dO M A) 127 127))), (3, .int (nI (dU M A))), (2, .int (nI (dT_ M A))), (0, .ref c0), (1, .int (nI A))]) (fun c => q_OB G AA c0 hbd (dM M A) (q_hM M)) ?_ 0 (lv_sub hl [0, 1, 2, 3, 4, 5, 6, 7, 8, 9, 10, 11, 12, 13, 14] rfl) hO hS (by omega)
                            intro c ls H locs hl hO hS hi49 ih48
                            have hi49_0 := hi49
                            have hi49_0 : c ≤ 7 := hi49_0
                            have hO : q_OB G AA c0 hbd (dM M A) (q_hM M) _ := hO
                            have hl : lv_has ls 18 [(14, .int (nI c)), (13, .int (nI t)), (12, .int (nI (dO M A x.2))), (11, .int (nI x.2)), (10, .int (nI x.1)), (9, .int (nI (M 198))), (8, .int (nI (M 200))), (7, .int (nI (M 199))), (6, .int (nI (dL M A))), (5, .int (nI (dO M A 0))), (4, .int (nI (es M (dO M A) 127 127))), (3, .int (nI (dU M A))), (2, .int (nI (dT_ M A))), (0, .ref c0), (1, .int (nI A))] := hl
                            refine lv_iload hx hb dL_isDivided_236 (lv_at hl 0 rfl) ?_
                            refine nr_bi (v := 7) hx hb dL_isDivided_238 (by decide +kernel) ?_
                            refine br_ige (tgt := 345) hx hb dL_isDivided_240 (by decide) (by omega) (by decide) (fun h50 => ?_) (fun h50 => ?_)
                            · skip
                              refine lv_iload hx hb dL_isDivided_345 (lv_at hl 4 rfl) ?_
                              refine nr_const (v := 1) hx hb dL_isDivided_347 rfl ?_
                              refine lv_iload hx hb dL_isDivided_348 (lv_at hl 2 rfl) ?_
                              refine lv_ishl hx hb dL_isDivided_350 ?_
                              refine nr_top (bt_shl (by omega)) ?_
                              refine lv_iconst (v := (-1)) hx hb dL_isDivided_351 (by decide +kernel) ?_
                              refine lv_ixor hx hb dL_isDivided_352 ?_
                              refine lv_iand hx hb dL_isDivided_353 ?_
                              refine nr_top (bt_rm (by omega) (by omega)) ?_
                              refine lv_istore (lv' := [(10, .int (nI (rmv x.1 (dO M A x.2)))), (14, .int (nI c)), (13, .int (nI t)), (12, .int (nI (dO M A x.2))), (11, .int (nI x.2)), (9, .int (nI (M 198))), (8, .int (nI (M 200))), (7, .int (nI (M 199))), (6, .int (nI (dL M A))), (5, .int (nI (dO M A 0))), (4, .int (nI (es M (dO M A) 127 127))), (3, .int (nI (dU M A))), (2, .int (nI (dT_ M A))), (0, .ref c0), (1, .int (nI A))]) hx hb dL_isDivided_354 hl (by decide) rfl (fun ls hl => ?_)
                              refine lv_iload hx hb dL_isDivided_356 (lv_at hl 2 rfl) ?_
                              refine lv_istore (lv' := [(11, .int (nI t)), (10, .int (nI (rmv x.1 (dO M A x.2)))), (14, .int (nI c)), (13, .int (nI t)), (12, .int (nI (dO M A x.2))), (9, .int (nI (M 198))), (8, .int (nI (M 200))), (7, .int (nI (M 199))), (6, .int (nI (dL M A))), (5, .int (nI (dO M A 0))), (4, .int (nI (es M (dO M A) 127 127))), (3, .int (nI (dU M A))), (2, .int (nI (dT_ M A))), (0, .ref c0), (1, .int (nI A))]) hx hb dL_isDivided_358 hl (by decide) rfl (fun ls hl => ?_)
                              refine lv_goto (tgt := 138) hx hb dL_isDivided_360 (by decide) ?_
                              exact ih8 (rmv x.1 (dO M A x.2), t) ls H locs (lv_sub hl [0, 1, 5, 6, 7, 8, 9, 10, 11, 12, 13, 14] rfl) hO hS hd4 (by dsimp only; omega)
                            · skip
                              refine nr_const (v := 0) hx hb dL_isDivided_243 rfl ?_
                              refine lv_istore (lv' := [(15, .int (nI 0)), (14, .int (nI c)), (13, .int (nI t)), (12, .int (nI (dO M A x.2))), (11, .int (nI x.2)), (10, .int (nI x.1)), (9, .int (nI (M 198))), (8, .int (nI (M 200))), (7, .int (nI (M 199))), (6, .int (nI (dL M A))), (5, .int (nI (dO M A 0))), (4, .int (nI (es M (dO M A) 127 127))), (3, .int (nI (dU M A))), (2, .int (nI (dT_ M A))), (0, .ref c0), (1, .int (nI A))]) hx hb dL_isDivided_244 hl (by decide) rfl (fun ls hl => ?_)
                              refine nr_const (v := 0) hx hb dL_isDivided_246 rfl ?_
                              refine lv_istore (lv' := [(16, .int (nI 0)), (15, .int (nI 0)), (14, .int (nI c)), (13, .int (nI t)), (12, .int (nI (dO M A x.2))), (11, .int (nI x.2)), (10, .int (nI x.1)), (9, .int (nI (M 198))), (8, .int (nI (M 200))), (7, .int (nI (M 199))), (6, .int (nI (dL M A))), (5, .int (nI (dO M A 0))), (4, .int (nI (es M (dO M A) 127 127))), (3, .int (nI (dU M A))), (2, .int (nI (dT_ M A))), (0, .ref c0), (1, .int (nI A))]) hx hb dL_isDivided_247 hl (by decide) rfl (fun ls hl => ?_)
                              refine lv_iload hx hb dL_isDivided_249 (lv_at hl 5 rfl) ?_
                              refine lv_istore (lv' := [(17, .int (nI x.2)), (16, .int (nI 0)), (15, .int (nI 0)), (14, .int (nI c)), (13, .int (nI t)), (12, .int (nI (dO M A x.2))), (11, .int (nI x.2)), (10, .int (nI x.1)), (9, .int (nI (M 198))), (8, .int (nI (M 200))), (7, .int (nI (M 199))), (6, .int (nI (dL M A))), (5, .int (nI (dO M A 0))), (4, .int (nI (es M (dO M A) 127 127))), (3, .int (nI (dU M A))), (2, .int (nI (dT_ M A))), (0, .ref c0), (1, .int (nI A))]) hx hb dL_isDivided_251 hl (by decide) rfl (fun ls hl => ?_)
                              refine loop_o (T := Nat) (nL := 18) (fun k => k ≤ 24 - x.2) (fun k => 24 - x.2 - k) (fun k => [(17, .int (nI (x.2 + k))), (16, .int (nI (sr (wr M c) x.2 k))), (15, .int (nI (sm (fun j => if t - 1 ≤ x.2 + j then 0 else wr M c (x.2 + j)) k))), (14, .int (nI c)), (13, .int (nI t)), (12, .int (nI (dO M A x.2))), (11, .int (nI x.2)), (10, .int (nI x.1)), (9, .int (nI (M 198))), (8, .int (nI (M 200))), (7, .int (nI (M 199))), (6, .int (nI (dL M A))), (5, .int (nI (dO M A 0))), (4, .int (nI (es M (dO M A) 127 127))), (3, .int (nI (dU M A))), (2, .int (nI (dT_ M A))), (0, .ref c0), (1, .int (nI A))]) (fun k => q_OB G AA c0 hbd (dM M A) (q_hM M)) ?_ 0 (lv_sub hl [0, 1, 2, 3, 4, 5, 6, 7, 8, 9, 10, 11, 12, 13, 14, 15, 16, 17] rfl) hO hS (by omega)
                              intro k ls H locs hl hO hS hi52 ih51
                              have hi52_0 := hi52
                              have hi52_0 : k ≤ 24 - x.2 := hi52_0
                              have hO : q_OB G AA c0 hbd (dM M A) (q_hM M) _ := hO
                              have hl : lv_has ls 18 [(17, .int (nI (x.2 + k))), (16, .int (nI (sr (wr M c) x.2 k))), (15, .int (nI (sm (fun j => if t - 1 ≤ x.2 + j then 0 else wr M c (x.2 + j)) k))), (14, .int (nI c)), (13, .int (nI t)), (12, .int (nI (dO M A x.2))), (11, .int (nI x.2)), (10, .int (nI x.1)), (9, .int (nI (M 198))), (8, .int (nI (M 200))), (7, .int (nI (M 199))), (6, .int (nI (dL M A))), (5, .int (nI (dO M A 0))), (4, .int (nI (es M (dO M A) 127 127))), (3, .int (nI (dU M A))), (2, .int (nI (dT_ M A))), (0, .ref c0), (1, .int (nI A))] := hl
                              refine lv_iload hx hb dL_isDivided_253 (lv_at hl 0 rfl) ?_
                              refine nr_bi (v := 24) hx hb dL_isDivided_255 (by decide +kernel) ?_
                              refine br_ige (tgt := 309) hx hb dL_isDivided_257 (by decide) (by omega) (by decide) (fun h53 => ?_) (fun h53 => ?_)
                              · skip
                                have e2 : k = 24 - x.2 := (by omega)
                                subst e2
                                have hl : lv_has ls 18 [(17, .int (nI (x.2 + (24 - x.2)))), (16, .int (nI (sr (wr M c) x.2 (24 - x.2)))), (15, .int (nI (sm (fun j => if t - 1 ≤ x.2 + j then 0 else wr M c (x.2 + j)) (24 - x.2)))), (14, .int (nI c)), (13, .int (nI t)), (12, .int (nI (dO M A x.2))), (11, .int (nI x.2)), (10, .int (nI x.1)), (9, .int (nI (M 198))), (8, .int (nI (M 200))), (7, .int (nI (M 199))), (6, .int (nI (dL M A))), (5, .int (nI (dO M A 0))), (4, .int (nI (es M (dO M A) 127 127))), (3, .int (nI (dU M A))), (2, .int (nI (dT_ M A))), (0, .ref c0), (1, .int (nI A))] := hl
                                rw [dits c x.2 t (n := 24 - x.2) (by omega) (by omega) hi_t2] at hl
                                have hl : lv_has ls 18 [(17, .int (nI (x.2 + (24 - x.2)))), (16, .int (nI (wf M c x.2))), (15, .int (nI (sr (wr M c) x.2 (t - 1 - x.2)))), (14, .int (nI c)), (13, .int (nI t)), (12, .int (nI (dO M A x.2))), (11, .int (nI x.2)), (10, .int (nI x.1)), (9, .int (nI (M 198))), (8, .int (nI (M 200))), (7, .int (nI (M 199))), (6, .int (nI (dL M A))), (5, .int (nI (dO M A 0))), (4, .int (nI (es M (dO M A) 127 127))), (3, .int (nI (dU M A))), (2, .int (nI (dT_ M A))), (0, .ref c0), (1, .int (nI A))] := hl
                                refine lv_iload hx hb dL_isDivided_309 (lv_at hl 3 rfl) ?_
                                refine lv_iload hx hb dL_isDivided_311 (lv_at hl 5 rfl) ?_
                                refine br_ieq (tgt := 323) hx hb dL_isDivided_313 (by decide) (by omega) (Nat.lt_trans (dO_in h0k hA0 hA (by omega)).1 (by decide)) (fun h54 => ?_) (fun h54 => ?_)
                                · skip
                                  have hd6 := hd5 c (by omega) (by first | exact Or.inl (by assumption) | exact Or.inr (by assumption))
                                  refine lv_iload hx hb dL_isDivided_323 (lv_at hl 1 rfl) ?_
                                  have hwf : wf M c x.2 ≤ 7776 := sr_le (a := x.2) (n := 24 - x.2) h0k (by omega) (by omega)
                                  refine br_le0 (tgt := 339) hx hb dL_isDivided_325 (by decide) (by omega) (fun h55 => ?_) (fun h55 => ?_)
                                  · skip
                                    refine nr_inc (d := 1) (v := c + 1) (lv' := [(14, .int (nI (c + 1))), (17, .int (nI (x.2 + (24 - x.2)))), (16, .int (nI (wf M c x.2))), (15, .int (nI (sr (wr M c) x.2 (t - 1 - x.2)))), (13, .int (nI t)), (12, .int (nI (dO M A x.2))), (11, .int (nI x.2)), (10, .int (nI x.1)), (9, .int (nI (M 198))), (8, .int (nI (M 200))), (7, .int (nI (M 199))), (6, .int (nI (dL M A))), (5, .int (nI (dO M A 0))), (4, .int (nI (es M (dO M A) 127 127))), (3, .int (nI (dU M A))), (2, .int (nI (dT_ M A))), (0, .ref c0), (1, .int (nI A))]) hx hb dL_isDivided_339 hl (k := 3) rfl rfl (by decide) rfl (fun ls hl => ?_)
                                    refine lv_goto (tgt := 236) hx hb dL_isDivided_342 (by decide) ?_
                                    exact ih48 (c + 1) ls H locs (lv_sub hl [0, 4, 5, 6, 7, 8, 9, 10, 11, 12, 13, 14, 15, 16, 17] rfl) hO hS (by omega) (by omega)
                                  · skip
                                    refine nr_const (v := 2) hx hb dL_isDivided_328 rfl ?_
                                    refine lv_iload hx hb dL_isDivided_329 (lv_at hl 2 rfl) ?_
                                    refine nr_mul hx hb dL_isDivided_331 ?_
                                    refine lv_iload hx hb dL_isDivided_332 (lv_at hl 1 rfl) ?_
                                    refine br_ilt (tgt := 339) hx hb dL_isDivided_334 (by decide) (by omega) (by omega) (fun h56 => ?_) (fun h56 => ?_)
                                    · skip
                                      refine nr_inc (d := 1) (v := c + 1) (lv' := [(14, .int (nI (c + 1))), (17, .int (nI (x.2 + (24 - x.2)))), (16, .int (nI (wf M c x.2))), (15, .int (nI (sr (wr M c) x.2 (t - 1 - x.2)))), (13, .int (nI t)), (12, .int (nI (dO M A x.2))), (11, .int (nI x.2)), (10, .int (nI x.1)), (9, .int (nI (M 198))), (8, .int (nI (M 200))), (7, .int (nI (M 199))), (6, .int (nI (dL M A))), (5, .int (nI (dO M A 0))), (4, .int (nI (es M (dO M A) 127 127))), (3, .int (nI (dU M A))), (2, .int (nI (dT_ M A))), (0, .ref c0), (1, .int (nI A))]) hx hb dL_isDivided_339 hl (k := 3) rfl rfl (by decide) rfl (fun ls hl => ?_)
                                      refine lv_goto (tgt := 236) hx hb dL_isDivided_342 (by decide) ?_
                                      exact ih48 (c + 1) ls H locs (lv_sub hl [0, 4, 5, 6, 7, 8, 9, 10, 11, 12, 13, 14, 15, 16, 17] rfl) hO hS (by omega) (by omega)
                                    · exact absurd hd6 h56
                                · skip
                                  refine lv_iload hx hb dL_isDivided_316 (lv_at hl 3 rfl) ?_
                                  refine lv_iload hx hb dL_isDivided_318 (lv_at hl 11 rfl) ?_
                                  refine br_ine (tgt := 339) hx hb dL_isDivided_320 (by decide) (by omega) (by omega) (fun h57 => ?_) (fun h57 => ?_)
                                  · skip
                                    refine nr_inc (d := 1) (v := c + 1) (lv' := [(14, .int (nI (c + 1))), (17, .int (nI (x.2 + (24 - x.2)))), (16, .int (nI (wf M c x.2))), (15, .int (nI (sr (wr M c) x.2 (t - 1 - x.2)))), (13, .int (nI t)), (12, .int (nI (dO M A x.2))), (11, .int (nI x.2)), (10, .int (nI x.1)), (9, .int (nI (M 198))), (8, .int (nI (M 200))), (7, .int (nI (M 199))), (6, .int (nI (dL M A))), (5, .int (nI (dO M A 0))), (4, .int (nI (es M (dO M A) 127 127))), (3, .int (nI (dU M A))), (2, .int (nI (dT_ M A))), (0, .ref c0), (1, .int (nI A))]) hx hb dL_isDivided_339 hl (k := 3) rfl rfl (by decide) rfl (fun ls hl => ?_)
                                    refine lv_goto (tgt := 236) hx hb dL_isDivided_342 (by decide) ?_
                                    exact ih48 (c + 1) ls H locs (lv_sub hl [0, 4, 5, 6, 7, 8, 9, 10, 11, 12, 13, 14, 15, 16, 17] rfl) hO hS (by omega) (by omega)
                                  · skip
                                    have hd6 := hd5 c (by omega) (by first | exact Or.inl (by assumption) | exact Or.inr (by assumption))
                                    refine lv_iload hx hb dL_isDivided_323 (lv_at hl 1 rfl) ?_
                                    have hwf : wf M c x.2 ≤ 7776 := sr_le (a := x.2) (n := 24 - x.2) h0k (by omega) (by omega)
                                    refine br_le0 (tgt := 339) hx hb dL_isDivided_325 (by decide) (by omega) (fun h58 => ?_) (fun h58 => ?_)
                                    · skip
                                      refine nr_inc (d := 1) (v := c + 1) (lv' := [(14, .int (nI (c + 1))), (17, .int (nI (x.2 + (24 - x.2)))), (16, .int (nI (wf M c x.2))), (15, .int (nI (sr (wr M c) x.2 (t - 1 - x.2)))), (13, .int (nI t)), (12, .int (nI (dO M A x.2))), (11, .int (nI x.2)), (10, .int (nI x.1)), (9, .int (nI (M 198))), (8, .int (nI (M 200))), (7, .int (nI (M 199))), (6, .int (nI (dL M A))), (5, .int (nI (dO M A 0))), (4, .int (nI (es M (dO M A) 127 127))), (3, .int (nI (dU M A))), (2, .int (nI (dT_ M A))), (0, .ref c0), (1, .int (nI A))]) hx hb dL_isDivided_339 hl (k := 3) rfl rfl (by decide) rfl (fun ls hl => ?_)
                                      refine lv_goto (tgt := 236) hx hb dL_isDivided_342 (by decide) ?_
                                      exact ih48 (c + 1) ls H locs (lv_sub hl [0, 4, 5, 6, 7, 8, 9, 10, 11, 12, 13, 14, 15, 16, 17] rfl) hO hS (by omega) (by omega)
                                    · skip
                                      refine nr_const (v := 2) hx hb dL_isDivided_328 rfl ?_
                                      refine lv_iload hx hb dL_isDivided_329 (lv_at hl 2 rfl) ?_
                                      refine nr_mul hx hb dL_isDivided_331 ?_
                                      refine lv_iload hx hb dL_isDivided_332 (lv_at hl 1 rfl) ?_
                                      refine br_ilt (tgt := 339) hx hb dL_isDivided_334 (by decide) (by omega) (by omega) (fun h59 => ?_) (fun h59 => ?_)
                                      · skip
                                        refine nr_inc (d := 1) (v := c + 1) (lv' := [(14, .int (nI (c + 1))), (17, .int (nI (x.2 + (24 - x.2)))), (16, .int (nI (wf M c x.2))), (15, .int (nI (sr (wr M c) x.2 (t - 1 - x.2)))), (13, .int (nI t)), (12, .int (nI (dO M A x.2))), (11, .int (nI x.2)), (10, .int (nI x.1)), (9, .int (nI (M 198))), (8, .int (nI (M 200))), (7, .int (nI (M 199))), (6, .int (nI (dL M A))), (5, .int (nI (dO M A 0))), (4, .int (nI (es M (dO M A) 127 127))), (3, .int (nI (dU M A))), (2, .int (nI (dT_ M A))), (0, .ref c0), (1, .int (nI A))]) hx hb dL_isDivided_339 hl (k := 3) rfl rfl (by decide) rfl (fun ls hl => ?_)
                                        refine lv_goto (tgt := 236) hx hb dL_isDivided_342 (by decide) ?_
                                        exact ih48 (c + 1) ls H locs (lv_sub hl [0, 4, 5, 6, 7, 8, 9, 10, 11, 12, 13, 14, 15, 16, 17] rfl) hO hS (by omega) (by omega)
                                      · exact absurd hd6 h59
                              · skip
                                refine lv_iload hx hb dL_isDivided_260 (lv_at hl 1 rfl) ?_
                                refine lv_aload_n hx hb dL_isDivided_262 rfl (lv_at hl 16 rfl) ?_
                                refine lv_iload hx hb dL_isDivided_263 (lv_at hl 0 rfl) ?_
                                refine nr_const (v := 5) hx hb dL_isDivided_265 rfl ?_
                                refine lv_iload hx hb dL_isDivided_266 (lv_at hl 3 rfl) ?_
                                refine nr_add hx hb dL_isDivided_268 ?_
                                refine k_plot ⟨hx, hb, hml, hown, hts⟩ (cwV 2 hts gL_isDivided_X5_plot rfl rfl rfl (by decide +kernel) ⟨Nat.le_of_ble_eq_true rfl, Nat.le_of_ble_eq_true rfl⟩) hK hNW hAA  hO hS hl.1 (Nat.le_of_ble_eq_true rfl) dL_isDivided_269 ⟨Nat.zero_le _, Nat.zero_le _⟩ ?_
                                refine nr_top (y := nI (wr (dM M A) c (x.2 + k))) (pl_w (by omega) (by omega)) ?_
                                refine nr_top (y := nI (wr M c (x.2 + k))) (congrArg nI (dM_wr (by omega) (by omega))) ?_
                                refine nr_add hx hb dL_isDivided_272 ?_
                                refine lv_istore (lv' := [(16, .int (nI ((sr (wr M c) x.2 k) + (wr M c (x.2 + k))))), (17, .int (nI (x.2 + k))), (15, .int (nI (sm (fun j => if t - 1 ≤ x.2 + j then 0 else wr M c (x.2 + j)) k))), (14, .int (nI c)), (13, .int (nI t)), (12, .int (nI (dO M A x.2))), (11, .int (nI x.2)), (10, .int (nI x.1)), (9, .int (nI (M 198))), (8, .int (nI (M 200))), (7, .int (nI (M 199))), (6, .int (nI (dL M A))), (5, .int (nI (dO M A 0))), (4, .int (nI (es M (dO M A) 127 127))), (3, .int (nI (dU M A))), (2, .int (nI (dT_ M A))), (0, .ref c0), (1, .int (nI A))]) hx hb dL_isDivided_273 hl (by decide) rfl (fun ls hl => ?_)
                                refine lv_iload hx hb dL_isDivided_275 (lv_at hl 2 rfl) ?_
                                refine lv_iload hx hb dL_isDivided_277 (lv_at hl 1 rfl) ?_
                                refine lv_iload hx hb dL_isDivided_279 (lv_at hl 4 rfl) ?_
                                refine nr_const (v := 1) hx hb dL_isDivided_281 rfl ?_
                                refine nr_sub hx hb dL_isDivided_282 (by omega) ?_
                                refine join_v (T := Nat) (J := 300) (nL := 18) (fun v => [(16, .int (nI ((sr (wr M c) x.2 k) + (wr M c (x.2 + k))))), (17, .int (nI (x.2 + k))), (15, .int (nI (sm (fun j => if t - 1 ≤ x.2 + j then 0 else wr M c (x.2 + j)) k))), (14, .int (nI c)), (13, .int (nI t)), (12, .int (nI (dO M A x.2))), (11, .int (nI x.2)), (10, .int (nI x.1)), (9, .int (nI (M 198))), (8, .int (nI (M 200))), (7, .int (nI (M 199))), (6, .int (nI (dL M A))), (5, .int (nI (dO M A 0))), (4, .int (nI (es M (dO M A) 127 127))), (3, .int (nI (dU M A))), (2, .int (nI (dT_ M A))), (0, .ref c0), (1, .int (nI A))]) (fun v => [.int (nI v), .int (nI (sm (fun j => if t - 1 ≤ x.2 + j then 0 else wr M c (x.2 + j)) k))]) (fun v => v = (if (t - 1) ≤ (x.2 + k) then 0 else (wr M c (x.2 + k)))) ?_ (fun jj60 => ?_)
                                · intro v ls hl hv61
                                  subst hv61
                                  refine nr_add hx hb dL_isDivided_300 ?_
                                  refine lv_istore (lv' := [(15, .int (nI ((sm (fun j => if t - 1 ≤ x.2 + j then 0 else wr M c (x.2 + j)) k) + (if (t - 1) ≤ (x.2 + k) then 0 else (wr M c (x.2 + k)))))), (16, .int (nI ((sr (wr M c) x.2 k) + (wr M c (x.2 + k))))), (17, .int (nI (x.2 + k))), (14, .int (nI c)), (13, .int (nI t)), (12, .int (nI (dO M A x.2))), (11, .int (nI x.2)), (10, .int (nI x.1)), (9, .int (nI (M 198))), (8, .int (nI (M 200))), (7, .int (nI (M 199))), (6, .int (nI (dL M A))), (5, .int (nI (dO M A 0))), (4, .int (nI (es M (dO M A) 127 127))), (3, .int (nI (dU M A))), (2, .int (nI (dT_ M A))), (0, .ref c0), (1, .int (nI A))]) hx hb dL_isDivided_301 hl (by decide) rfl (fun ls hl => ?_)
                                  refine nr_inc (d := 1) (v := (x.2 + k) + 1) (lv' := [(17, .int (nI ((x.2 + k) + 1))), (15, .int (nI ((sm (fun j => if t - 1 ≤ x.2 + j then 0 else wr M c (x.2 + j)) k) + (if (t - 1) ≤ (x.2 + k) then 0 else (wr M c (x.2 + k)))))), (16, .int (nI ((sr (wr M c) x.2 k) + (wr M c (x.2 + k))))), (14, .int (nI c)), (13, .int (nI t)), (12, .int (nI (dO M A x.2))), (11, .int (nI x.2)), (10, .int (nI x.1)), (9, .int (nI (M 198))), (8, .int (nI (M 200))), (7, .int (nI (M 199))), (6, .int (nI (dL M A))), (5, .int (nI (dO M A 0))), (4, .int (nI (es M (dO M A) 127 127))), (3, .int (nI (dU M A))), (2, .int (nI (dT_ M A))), (0, .ref c0), (1, .int (nI A))]) hx hb dL_isDivided_303 hl (k := 2) rfl rfl (by decide) rfl (fun ls hl => ?_)
                                  refine lv_goto (tgt := 253) hx hb dL_isDivided_306 (by decide) ?_
                                  exact ih51 (k + 1) ls H locs (lv_sub hl [0, 2, 1, 3, 4, 5, 6, 7, 8, 9, 10, 11, 12, 13, 14, 15, 16, 17] rfl) hO hS (by omega) (by omega)
                                · skip
                                  refine br_ige (tgt := 299) hx hb dL_isDivided_283 (by decide) (by omega) (by omega) (fun h62 => ?_) (fun h62 => ?_)
                                  · skip
                                    refine nr_const (v := 0) hx hb dL_isDivided_299 rfl ?_
                                    exact jj60 0 ls (lv_sub hl [0, 1, 2, 3, 4, 5, 6, 7, 8, 9, 10, 11, 12, 13, 14, 15, 16, 17] rfl) (by simp only [if_pos h62])
                                  · skip
                                    refine lv_aload_n hx hb dL_isDivided_286 rfl (lv_at hl 16 rfl) ?_
                                    refine lv_iload hx hb dL_isDivided_287 (lv_at hl 1 rfl) ?_
                                    refine nr_const (v := 5) hx hb dL_isDivided_289 rfl ?_
                                    refine lv_iload hx hb dL_isDivided_290 (lv_at hl 3 rfl) ?_
                                    refine nr_add hx hb dL_isDivided_292 ?_
                                    refine k_plot ⟨hx, hb, hml, hown, hts⟩ (cwV 2 hts gL_isDivided_X5_plot rfl rfl rfl (by decide +kernel) ⟨Nat.le_of_ble_eq_true rfl, Nat.le_of_ble_eq_true rfl⟩) hK hNW hAA  hO hS hl.1 (Nat.le_of_ble_eq_true rfl) dL_isDivided_293 ⟨Nat.zero_le _, Nat.zero_le _⟩ ?_
                                    refine nr_top (y := nI (wr (dM M A) c (x.2 + k))) (pl_w (by omega) (by omega)) ?_
                                    refine nr_top (y := nI (wr M c (x.2 + k))) (congrArg nI (dM_wr (by omega) (by omega))) ?_
                                    refine lv_goto (tgt := 300) hx hb dL_isDivided_296 (by decide) ?_
                                    exact jj60 (wr M c (x.2 + k)) ls (lv_sub hl [0, 1, 2, 3, 4, 5, 6, 7, 8, 9, 10, 11, 12, 13, 14, 15, 16, 17] rfl) (by simp only [if_neg h62])
                          · exact absurd h47 (by omega)
                        · skip
                          refine lv_iload hx hb dL_isDivided_211 (lv_at hl 0 rfl) ?_
                          refine nr_bi (v := 24) hx hb dL_isDivided_213 (by decide +kernel) ?_
                          refine br_ine (tgt := 221) hx hb dL_isDivided_215 (by decide) (by omega) (by decide) (fun h63 => ?_) (fun h63 => ?_)
                          · exact absurd (hds.elim (fun q => q.2) (fun q => absurd (by assumption) q.1)) h63
                          · skip
                            refine lv_goto (tgt := 363) hx hb dL_isDivided_218 (by decide) ?_
                            refine nr_const (v := 0) hx hb dL_isDivided_363 rfl ?_
                            refine lv_istore (lv' := [(12, .int (nI 0)), (13, .int (nI t)), (11, .int (nI x.2)), (10, .int (nI x.1)), (9, .int (nI (M 198))), (8, .int (nI (M 200))), (7, .int (nI (M 199))), (6, .int (nI (dL M A))), (5, .int (nI (dO M A 0))), (4, .int (nI (es M (dO M A) 127 127))), (3, .int (nI (dU M A))), (2, .int (nI (dT_ M A))), (0, .ref c0), (1, .int (nI A))]) hx hb dL_isDivided_364 hl (by decide) rfl (fun ls hl => ?_)
                            refine nr_const (v := 0) hx hb dL_isDivided_366 rfl ?_
                            refine lv_istore (lv' := [(13, .int (nI 0)), (12, .int (nI 0)), (11, .int (nI x.2)), (10, .int (nI x.1)), (9, .int (nI (M 198))), (8, .int (nI (M 200))), (7, .int (nI (M 199))), (6, .int (nI (dL M A))), (5, .int (nI (dO M A 0))), (4, .int (nI (es M (dO M A) 127 127))), (3, .int (nI (dU M A))), (2, .int (nI (dT_ M A))), (0, .ref c0), (1, .int (nI A))]) hx hb dL_isDivided_367 hl (by decide) rfl (fun ls hl => ?_)
                            refine loop_o (T := Nat) (nL := 18) (fun c => c ≤ 7) (fun c => 7 - c) (fun c => [(12, .int (nI (sm (fun j => pc4 (dO M A) j) c))), (9, .int (nI (M 198))), (8, .int (nI (M 200))), (7, .int (nI (M 199))), (6, .int (nI (dL M A))), (5, .int (nI (dO M A 0))), (4, .int (nI (es M (dO M A) 127 127))), (3, .int (nI (dU M A))), (2, .int (nI (dT_ M A))), (0, .ref c0), (1, .int (nI A)), (13, .int (nI c))]) (fun c => q_OB G AA c0 hbd (dM M A) (q_hM M)) ?_ 0 (lv_sub hl [1, 4, 5, 6, 7, 8, 9, 10, 11, 12, 13, 0] rfl) hO hS (by omega)
                            intro c ls H locs hl hO hS hi65 ih64
                            have hi65_0 := hi65
                            have hi65_0 : c ≤ 7 := hi65_0
                            have hO : q_OB G AA c0 hbd (dM M A) (q_hM M) _ := hO
                            have hl : lv_has ls 18 [(12, .int (nI (sm (fun j => pc4 (dO M A) j) c))), (9, .int (nI (M 198))), (8, .int (nI (M 200))), (7, .int (nI (M 199))), (6, .int (nI (dL M A))), (5, .int (nI (dO M A 0))), (4, .int (nI (es M (dO M A) 127 127))), (3, .int (nI (dU M A))), (2, .int (nI (dT_ M A))), (0, .ref c0), (1, .int (nI A)), (13, .int (nI c))] := hl
                            refine lv_iload hx hb dL_isDivided_369 (lv_at hl 11 rfl) ?_
                            refine nr_bi (v := 7) hx hb dL_isDivided_371 (by decide +kernel) ?_
                            refine br_ige (tgt := 415) hx hb dL_isDivided_373 (by decide) (by omega) (by decide) (fun h66 => ?_) (fun h66 => ?_)
                            · skip
                              have e2 : c = 7 := (by omega)
                              subst e2
                              have hl : lv_has ls 18 [(12, .int (nI (sm (fun j => pc4 (dO M A) j) 7))), (9, .int (nI (M 198))), (8, .int (nI (M 200))), (7, .int (nI (M 199))), (6, .int (nI (dL M A))), (5, .int (nI (dO M A 0))), (4, .int (nI (es M (dO M A) 127 127))), (3, .int (nI (dU M A))), (2, .int (nI (dT_ M A))), (0, .ref c0), (1, .int (nI A)), (13, .int (nI 7))] := hl
                              rw [dheld h0k hA0 hA] at hl
                              have hl : lv_has ls 18 [(12, .int (nI 24)), (9, .int (nI (M 198))), (8, .int (nI (M 200))), (7, .int (nI (M 199))), (6, .int (nI (dL M A))), (5, .int (nI (dO M A 0))), (4, .int (nI (es M (dO M A) 127 127))), (3, .int (nI (dU M A))), (2, .int (nI (dT_ M A))), (0, .ref c0), (1, .int (nI A)), (13, .int (nI 7))] := hl
                              refine lv_iload hx hb dL_isDivided_415 (lv_at hl 0 rfl) ?_
                              refine nr_bi (v := 24) hx hb dL_isDivided_417 (by decide +kernel) ?_
                              refine br_ine (tgt := 446) hx hb dL_isDivided_419 (by decide) (by decide) (by decide) (fun h67 => ?_) (fun h67 => ?_)
                              · exact absurd (by decide) h67
                              · skip
                                refine lv_iload_n hx hb dL_isDivided_422 rfl (lv_at hl 10 rfl) ?_
                                refine lv_iload hx hb dL_isDivided_423 (lv_at hl 4 rfl) ?_
                                refine lv_ishr hx hb dL_isDivided_425 ?_
                                refine nr_const (v := 1) hx hb dL_isDivided_426 rfl ?_
                                refine lv_iand hx hb dL_isDivided_427 ?_
                                refine nr_top (bt_shr (by omega) (by omega)) ?_
                                refine nr_const (v := 1) hx hb dL_isDivided_428 rfl ?_
                                refine br_ine (tgt := 446) hx hb dL_isDivided_429 (by decide) (by omega) (by decide) (fun h68 => ?_) (fun h68 => ?_)
                                · exact absurd hLn h68
                                · skip
                                  refine lv_iload hx hb dL_isDivided_432 (lv_at hl 1 rfl) ?_
                                  refine lv_aload_n hx hb dL_isDivided_434 rfl (lv_at hl 9 rfl) ?_
                                  refine nr_const (v := 1) hx hb dL_isDivided_435 rfl ?_
                                  refine k_total ⟨hx, hb, hml, hown, hts⟩ (cwV 1 hts gL_isDivided_X5_total rfl rfl rfl (by decide +kernel) ⟨Nat.le_of_ble_eq_true rfl, Nat.le_of_ble_eq_true rfl⟩) hK hNW hAA (by decide) hO hS hl.1 (Nat.le_of_ble_eq_true rfl) dL_isDivided_436 ⟨Nat.zero_le _, Nat.zero_le _⟩ (fun H locs hO hS => ?_)
                                  have hO : q_OB G AA c0 hbd (dM M A) (q_hM M) _ := hO
                                  refine nr_top (y := nI ((dM M A) 198)) (to_1) ?_
                                  refine nr_top (y := nI (M 198)) (congrArg nI (dM_ag M A 198 (by decide) (by decide)).symm) ?_
                                  refine br_ine (tgt := 446) hx hb dL_isDivided_439 (by decide) (by omega) (by omega) (fun h69 => ?_) (fun h69 => ?_)
                                  · exact absurd rfl h69
                                  · skip
                                    refine nr_const (v := 1) hx hb dL_isDivided_442 rfl ?_
                                    refine lv_goto (tgt := 447) hx hb dL_isDivided_443 (by decide) ?_
                                    exact obretz (post := fun (r : Int32) (u : Nat → Nat) => r = nI 1 ∧ (q_iv (hbd + 64) u)) (ob := fun (u : Nat → Nat) => q_OB G AA c0 (hbd + 64) u q_hT) hx hb hr hlk hS (dM M A) (q_OB_T (q_OB_le hO (by omega))) ⟨rfl, q_iv_le hdv (by omega)⟩ dL_isDivided_447
                            · skip
                              have hpc := pc4_le (dO M A) c
                              have hbc := bt_lt A c
                              have hhl := dheld_le h0k hA0 hA (n := c) (by omega)
                              refine lv_iload hx hb dL_isDivided_376 (lv_at hl 0 rfl) ?_
                              refine lv_aload_n hx hb dL_isDivided_378 rfl (lv_at hl 9 rfl) ?_
                              refine lv_iload hx hb dL_isDivided_379 (lv_at hl 11 rfl) ?_
                              refine nr_const (v := 4) hx hb dL_isDivided_381 rfl ?_
                              refine k_cousin ⟨hx, hb, hml, hown, hts⟩ (cwV 2 hts gL_isDivided_X5_cousin rfl rfl rfl (by decide +kernel) ⟨Nat.le_of_ble_eq_true rfl, Nat.le_of_ble_eq_true rfl⟩) hK hNW hAA  hO hS hl.1 (Nat.le_of_ble_eq_true rfl) dL_isDivided_382 ⟨Nat.zero_le _, Nat.zero_le _⟩ (fun H locs hO hS => ?_)
                              have hO : q_OB G AA c0 hbd (dM M A) (q_hM M) _ := hO
                              refine nr_top (y := nI (pc4 (ow (dM M A) 0) c)) (cz_4 (by omega)) ?_
                              refine nr_top (y := nI (pc4 (dO M A) c)) (congrArg nI dM_pc) ?_
                              refine nr_add hx hb dL_isDivided_385 ?_
                              refine lv_istore (lv' := [(12, .int (nI ((sm (fun j => pc4 (dO M A) j) c) + (pc4 (dO M A) c)))), (9, .int (nI (M 198))), (8, .int (nI (M 200))), (7, .int (nI (M 199))), (6, .int (nI (dL M A))), (5, .int (nI (dO M A 0))), (4, .int (nI (es M (dO M A) 127 127))), (3, .int (nI (dU M A))), (2, .int (nI (dT_ M A))), (0, .ref c0), (1, .int (nI A)), (13, .int (nI c))]) hx hb dL_isDivided_386 hl (by decide) rfl (fun ls hl => ?_)
                              refine lv_iload_n hx hb dL_isDivided_388 rfl (lv_at hl 10 rfl) ?_
                              refine lv_iload hx hb dL_isDivided_389 (lv_at hl 11 rfl) ?_
                              refine lv_ishr hx hb dL_isDivided_391 ?_
                              refine nr_const (v := 1) hx hb dL_isDivided_392 rfl ?_
                              refine lv_iand hx hb dL_isDivided_393 ?_
                              refine nr_top (bt_shr (by omega) (by omega)) ?_
                              refine br_ne0 (tgt := 409) hx hb dL_isDivided_394 (by decide) (by omega) (fun h70 => ?_) (fun h70 => ?_)
                              · skip
                                refine nr_inc (d := 1) (v := c + 1) (lv' := [(13, .int (nI (c + 1))), (12, .int (nI ((sm (fun j => pc4 (dO M A) j) c) + (pc4 (dO M A) c)))), (9, .int (nI (M 198))), (8, .int (nI (M 200))), (7, .int (nI (M 199))), (6, .int (nI (dL M A))), (5, .int (nI (dO M A 0))), (4, .int (nI (es M (dO M A) 127 127))), (3, .int (nI (dU M A))), (2, .int (nI (dT_ M A))), (0, .ref c0), (1, .int (nI A))]) hx hb dL_isDivided_409 hl (k := 11) rfl rfl (by decide) rfl (fun ls hl => ?_)
                                refine lv_goto (tgt := 369) hx hb dL_isDivided_412 (by decide) ?_
                                exact ih64 (c + 1) ls H locs (lv_sub hl [1, 2, 3, 4, 5, 6, 7, 8, 9, 10, 11, 0] rfl) hO hS (by omega) (by omega)
                              · skip
                                have hb1 : ¬ bt A c = 1 := (by omega)
                                refine lv_aload_n hx hb dL_isDivided_397 rfl (lv_at hl 9 rfl) ?_
                                refine lv_iload hx hb dL_isDivided_398 (lv_at hl 11 rfl) ?_
                                refine nr_const (v := 4) hx hb dL_isDivided_400 rfl ?_
                                refine k_cousin ⟨hx, hb, hml, hown, hts⟩ (cwV 2 hts gL_isDivided_X5_cousin rfl rfl rfl (by decide +kernel) ⟨Nat.le_of_ble_eq_true rfl, Nat.le_of_ble_eq_true rfl⟩) hK hNW hAA  hO hS hl.1 (Nat.le_of_ble_eq_true rfl) dL_isDivided_401 ⟨Nat.zero_le _, Nat.zero_le _⟩ (fun H locs hO hS => ?_)
                                have hO : q_OB G AA c0 hbd (dM M A) (q_hM M) _ := hO
                                refine nr_top (y := nI (pc4 (ow (dM M A) 0) c)) (cz_4 (by omega)) ?_
                                refine nr_top (y := nI (pc4 (dO M A) c)) (congrArg nI dM_pc) ?_
                                refine br_le0 (tgt := 409) hx hb dL_isDivided_404 (by decide) (by omega) (fun h71 => ?_) (fun h71 => ?_)
                                · skip
                                  refine nr_inc (d := 1) (v := c + 1) (lv' := [(13, .int (nI (c + 1))), (12, .int (nI ((sm (fun j => pc4 (dO M A) j) c) + (pc4 (dO M A) c)))), (9, .int (nI (M 198))), (8, .int (nI (M 200))), (7, .int (nI (M 199))), (6, .int (nI (dL M A))), (5, .int (nI (dO M A 0))), (4, .int (nI (es M (dO M A) 127 127))), (3, .int (nI (dU M A))), (2, .int (nI (dT_ M A))), (0, .ref c0), (1, .int (nI A))]) hx hb dL_isDivided_409 hl (k := 11) rfl rfl (by decide) rfl (fun ls hl => ?_)
                                  refine lv_goto (tgt := 369) hx hb dL_isDivided_412 (by decide) ?_
                                  exact ih64 (c + 1) ls H locs (lv_sub hl [1, 2, 3, 4, 5, 6, 7, 8, 9, 10, 11, 0] rfl) hO hS (by omega) (by omega)
                                · exact absurd (dnone h0k hA0 hA hb1) h71
                    · skip
                      have hot := (dO_in h0k hA0 hA (k := t) (by omega)).1
                      refine lv_aload_n hx hb dL_isDivided_179 rfl (lv_at hl 12 rfl) ?_
                      refine lv_iload hx hb dL_isDivided_180 (lv_at hl 0 rfl) ?_
                      refine nr_const (v := 4) hx hb dL_isDivided_182 rfl ?_
                      refine k_plot ⟨hx, hb, hml, hown, hts⟩ (cwV 2 hts gL_isDivided_X5_plot rfl rfl rfl (by decide +kernel) ⟨Nat.le_of_ble_eq_true rfl, Nat.le_of_ble_eq_true rfl⟩) hK hNW hAA  hO hS hl.1 (Nat.le_of_ble_eq_true rfl) dL_isDivided_183 ⟨Nat.zero_le _, Nat.zero_le _⟩ ?_
                      refine nr_top (y := nI (ow (dM M A) 0 t)) (pl_o (by omega)) ?_
                      refine nr_top (y := nI (dO M A t)) (congrArg nI (dM_ow (by omega))) ?_
                      refine lv_iload hx hb dL_isDivided_186 (lv_at hl 1 rfl) ?_
                      refine br_ine (tgt := 197) hx hb dL_isDivided_188 (by decide) (by omega) (Nat.lt_trans (dO_in h0k hA0 hA (by omega)).1 (by decide)) (fun h72 => ?_) (fun h72 => ?_)
                      · skip
                        have hds := dstep h0k hA0 hA hi_i (by omega) hi_t1 hi_t2 hi_t3 (by first | exact Or.inr (by assumption) | exact Or.inl (by omega))
                        have hw7 := (dO_in h0k hA0 hA (k := x.2) (by omega)).1
                        refine lv_iload hx hb dL_isDivided_197 (lv_at hl 1 rfl) ?_
                        refine nr_bi (v := 7) hx hb dL_isDivided_199 (by decide +kernel) ?_
                        refine br_ieq (tgt := 363) hx hb dL_isDivided_201 (by decide) (Nat.lt_trans (dO_in h0k hA0 hA (by omega)).1 (by decide)) (by decide) (fun h73 => ?_) (fun h73 => ?_)
                        · exact absurd h73 (by omega)
                        · skip
                          refine lv_iload hx hb dL_isDivided_204 (lv_at hl 1 rfl) ?_
                          refine lv_iload hx hb dL_isDivided_206 (lv_at hl 7 rfl) ?_
                          refine br_ine (tgt := 221) hx hb dL_isDivided_208 (by decide) (Nat.lt_trans (dO_in h0k hA0 hA (by omega)).1 (by decide)) (by omega) (fun h74 => ?_) (fun h74 => ?_)
                          · skip
                            obtain ⟨hd1, hd2, hd3, hd4, hd5⟩ := hds.resolve_left (fun q => absurd q.1 (by assumption))
                            refine lv_iload hx hb dL_isDivided_221 (lv_at hl 3 rfl) ?_
                            refine lv_iload hx hb dL_isDivided_223 (lv_at hl 1 rfl) ?_
                            refine lv_ishr hx hb dL_isDivided_225 ?_
                            refine nr_const (v := 1) hx hb dL_isDivided_226 rfl ?_
                            refine lv_iand hx hb dL_isDivided_227 ?_
                            refine nr_top (bt_shr (by omega) (by omega)) ?_
                            refine br_ne0 (tgt := 233) hx hb dL_isDivided_228 (by decide) (by omega) (fun h75 => ?_) (fun h75 => ?_)
                            · skip
                              refine nr_const (v := 0) hx hb dL_isDivided_233 rfl ?_
                              refine lv_istore (lv' := [(14, .int (nI 0)), (13, .int (nI t)), (12, .int (nI (dO M A x.2))), (11, .int (nI x.2)), (10, .int (nI x.1)), (9, .int (nI (M 198))), (8, .int (nI (M 200))), (7, .int (nI (M 199))), (6, .int (nI (dL M A))), (5, .int (nI (dO M A 0))), (4, .int (nI (es M (dO M A) 127 127))), (3, .int (nI (dU M A))), (2, .int (nI (dT_ M A))), (0, .ref c0), (1, .int (nI A))]) hx hb dL_isDivided_234 hl (by decide) rfl (fun ls hl => ?_)
                              refine loop_o (T := Nat) (nL := 18) (fun c => c ≤ 7) (fun c => 7 - c) (fun c => [(14, .int (nI c)), (13, .int (nI t)), (12, .int (nI (dO M A x.2))), (11, .int (nI x.2)), (10, .int (nI x.1)), (9, .int (nI (M 198))), (8, .int (nI (M 200))), (7, .int (nI (M 199))), (6, .int (nI (dL M A))), (5, .int (nI (dO M A 0))), (4, .int (nI (es M (dO M A) 127 127))), (3, .int (nI (dU M A))), (2, .int (nI (dT_ M A))), (0, .ref c0), (1, .int (nI A))]) (fun c => q_OB G AA c0 hbd (dM M A) (q_hM M)) ?_ 0 (lv_sub hl [0, 1, 2, 3, 4, 5, 6, 7, 8, 9, 10, 11, 12, 13, 14] rfl) hO hS (by omega)
                              intro c ls H locs hl hO hS hi77 ih76
                              have hi77_0 := hi77
                              have hi77_0 : c ≤ 7 := hi77_0
                              have hO : q_OB G AA c0 hbd (dM M A) (q_hM M) _ := hO
                              have hl : lv_has ls 18 [(14, .int (nI c)), (13, .int (nI t)), (12, .int (nI (dO M A x.2))), (11, .int (nI x.2)), (10, .int (nI x.1)), (9, .int (nI (M 198))), (8, .int (nI (M 200))), (7, .int (nI (M 199))), (6, .int (nI (dL M A))), (5, .int (nI (dO M A 0))), (4, .int (nI (es M (dO M A) 127 127))), (3, .int (nI (dU M A))), (2, .int (nI (dT_ M A))), (0, .ref c0), (1, .int (nI A))] := hl
                              refine lv_iload hx hb dL_isDivided_236 (lv_at hl 0 rfl) ?_
                              refine nr_bi (v := 7) hx hb dL_isDivided_238 (by decide +kernel) ?_
                              refine br_ige (tgt := 345) hx hb dL_isDivided_240 (by decide) (by omega) (by decide) (fun h78 => ?_) (fun h78 => ?_)
                              · skip
                                refine lv_iload hx hb dL_isDivided_345 (lv_at hl 4 rfl) ?_
                                refine nr_const (v := 1) hx hb dL_isDivided_347 rfl ?_
                                refine lv_iload hx hb dL_isDivided_348 (lv_at hl 2 rfl) ?_
                                refine lv_ishl hx hb dL_isDivided_350 ?_
                                refine nr_top (bt_shl (by omega)) ?_
                                refine lv_iconst (v := (-1)) hx hb dL_isDivided_351 (by decide +kernel) ?_
                                refine lv_ixor hx hb dL_isDivided_352 ?_
                                refine lv_iand hx hb dL_isDivided_353 ?_
                                refine nr_top (bt_rm (by omega) (by omega)) ?_
                                refine lv_istore (lv' := [(10, .int (nI (rmv x.1 (dO M A x.2)))), (14, .int (nI c)), (13, .int (nI t)), (12, .int (nI (dO M A x.2))), (11, .int (nI x.2)), (9, .int (nI (M 198))), (8, .int (nI (M 200))), (7, .int (nI (M 199))), (6, .int (nI (dL M A))), (5, .int (nI (dO M A 0))), (4, .int (nI (es M (dO M A) 127 127))), (3, .int (nI (dU M A))), (2, .int (nI (dT_ M A))), (0, .ref c0), (1, .int (nI A))]) hx hb dL_isDivided_354 hl (by decide) rfl (fun ls hl => ?_)
                                refine lv_iload hx hb dL_isDivided_356 (lv_at hl 2 rfl) ?_
                                refine lv_istore (lv' := [(11, .int (nI t)), (10, .int (nI (rmv x.1 (dO M A x.2)))), (14, .int (nI c)), (13, .int (nI t)), (12, .int (nI (dO M A x.2))), (9, .int (nI (M 198))), (8, .int (nI (M 200))), (7, .int (nI (M 199))), (6, .int (nI (dL M A))), (5, .int (nI (dO M A 0))), (4, .int (nI (es M (dO M A) 127 127))), (3, .int (nI (dU M A))), (2, .int (nI (dT_ M A))), (0, .ref c0), (1, .int (nI A))]) hx hb dL_isDivided_358 hl (by decide) rfl (fun ls hl => ?_)
                                refine lv_goto (tgt := 138) hx hb dL_isDivided_360 (by decide) ?_
                                exact ih8 (rmv x.1 (dO M A x.2), t) ls H locs (lv_sub hl [0, 1, 5, 6, 7, 8, 9, 10, 11, 12, 13, 14] rfl) hO hS hd4 (by dsimp only; omega)
                              · skip
                                refine nr_const (v := 0) hx hb dL_isDivided_243 rfl ?_
                                refine lv_istore (lv' := [(15, .int (nI 0)), (14, .int (nI c)), (13, .int (nI t)), (12, .int (nI (dO M A x.2))), (11, .int (nI x.2)), (10, .int (nI x.1)), (9, .int (nI (M 198))), (8, .int (nI (M 200))), (7, .int (nI (M 199))), (6, .int (nI (dL M A))), (5, .int (nI (dO M A 0))), (4, .int (nI (es M (dO M A) 127 127))), (3, .int (nI (dU M A))), (2, .int (nI (dT_ M A))), (0, .ref c0), (1, .int (nI A))]) hx hb dL_isDivided_244 hl (by decide) rfl (fun ls hl => ?_)
                                refine nr_const (v := 0) hx hb dL_isDivided_246 rfl ?_
                                refine lv_istore (lv' := [(16, .int (nI 0)), (15, .int (nI 0)), (14, .int (nI c)), (13, .int (nI t)), (12, .int (nI (dO M A x.2))), (11, .int (nI x.2)), (10, .int (nI x.1)), (9, .int (nI (M 198))), (8, .int (nI (M 200))), (7, .int (nI (M 199))), (6, .int (nI (dL M A))), (5, .int (nI (dO M A 0))), (4, .int (nI (es M (dO M A) 127 127))), (3, .int (nI (dU M A))), (2, .int (nI (dT_ M A))), (0, .ref c0), (1, .int (nI A))]) hx hb dL_isDivided_247 hl (by decide) rfl (fun ls hl => ?_)
                                refine lv_iload hx hb dL_isDivided_249 (lv_at hl 5 rfl) ?_
                                refine lv_istore (lv' := [(17, .int (nI x.2)), (16, .int (nI 0)), (15, .int (nI 0)), (14, .int (nI c)), (13, .int (nI t)), (12, .int (nI (dO M A x.2))), (11, .int (nI x.2)), (10, .int (nI x.1)), (9, .int (nI (M 198))), (8, .int (nI (M 200))), (7, .int (nI (M 199))), (6, .int (nI (dL M A))), (5, .int (nI (dO M A 0))), (4, .int (nI (es M (dO M A) 127 127))), (3, .int (nI (dU M A))), (2, .int (nI (dT_ M A))), (0, .ref c0), (1, .int (nI A))]) hx hb dL_isDivided_251 hl (by decide) rfl (fun ls hl => ?_)
                                refine loop_o (T := Nat) (nL := 18) (fun k => k ≤ 24 - x.2) (fun k => 24 - x.2 - k) (fun k => [(17, .int (nI (x.2 + k))), (16, .int (nI (sr (wr M c) x.2 k))), (15, .int (nI (sm (fun j => if t - 1 ≤ x.2 + j then 0 else wr M c (x.2 + j)) k))), (14, .int (nI c)), (13, .int (nI t)), (12, .int (nI (dO M A x.2))), (11, .int (nI x.2)), (10, .int (nI x.1)), (9, .int (nI (M 198))), (8, .int (nI (M 200))), (7, .int (nI (M 199))), (6, .int (nI (dL M A))), (5, .int (nI (dO M A 0))), (4, .int (nI (es M (dO M A) 127 127))), (3, .int (nI (dU M A))), (2, .int (nI (dT_ M A))), (0, .ref c0), (1, .int (nI A))]) (fun k => q_OB G AA c0 hbd (dM M A) (q_hM M)) ?_ 0 (lv_sub hl [0, 1, 2, 3, 4, 5, 6, 7, 8, 9, 10, 11, 12, 13, 14, 15, 16, 17] rfl) hO hS (by omega)
                                intro k ls H locs hl hO hS hi80 ih79
                                have hi80_0 := hi80
                                have hi80_0 : k ≤ 24 - x.2 := hi80_0
                                have hO : q_OB G AA c0 hbd (dM M A) (q_hM M) _ := hO
                                have hl : lv_has ls 18 [(17, .int (nI (x.2 + k))), (16, .int (nI (sr (wr M c) x.2 k))), (15, .int (nI (sm (fun j => if t - 1 ≤ x.2 + j then 0 else wr M c (x.2 + j)) k))), (14, .int (nI c)), (13, .int (nI t)), (12, .int (nI (dO M A x.2))), (11, .int (nI x.2)), (10, .int (nI x.1)), (9, .int (nI (M 198))), (8, .int (nI (M 200))), (7, .int (nI (M 199))), (6, .int (nI (dL M A))), (5, .int (nI (dO M A 0))), (4, .int (nI (es M (dO M A) 127 127))), (3, .int (nI (dU M A))), (2, .int (nI (dT_ M A))), (0, .ref c0), (1, .int (nI A))] := hl
                                refine lv_iload hx hb dL_isDivided_253 (lv_at hl 0 rfl) ?_
                                refine nr_bi (v := 24) hx hb dL_isDivided_255 (by decide +kernel) ?_
                                refine br_ige (tgt := 309) hx hb dL_isDivided_257 (by decide) (by omega) (by decide) (fun h81 => ?_) (fun h81 => ?_)
                                · skip
                                  have e2 : k = 24 - x.2 := (by omega)
                                  subst e2
                                  have hl : lv_has ls 18 [(17, .int (nI (x.2 + (24 - x.2)))), (16, .int (nI (sr (wr M c) x.2 (24 - x.2)))), (15, .int (nI (sm (fun j => if t - 1 ≤ x.2 + j then 0 else wr M c (x.2 + j)) (24 - x.2)))), (14, .int (nI c)), (13, .int (nI t)), (12, .int (nI (dO M A x.2))), (11, .int (nI x.2)), (10, .int (nI x.1)), (9, .int (nI (M 198))), (8, .int (nI (M 200))), (7, .int (nI (M 199))), (6, .int (nI (dL M A))), (5, .int (nI (dO M A 0))), (4, .int (nI (es M (dO M A) 127 127))), (3, .int (nI (dU M A))), (2, .int (nI (dT_ M A))), (0, .ref c0), (1, .int (nI A))] := hl
                                  rw [dits c x.2 t (n := 24 - x.2) (by omega) (by omega) hi_t2] at hl
                                  have hl : lv_has ls 18 [(17, .int (nI (x.2 + (24 - x.2)))), (16, .int (nI (wf M c x.2))), (15, .int (nI (sr (wr M c) x.2 (t - 1 - x.2)))), (14, .int (nI c)), (13, .int (nI t)), (12, .int (nI (dO M A x.2))), (11, .int (nI x.2)), (10, .int (nI x.1)), (9, .int (nI (M 198))), (8, .int (nI (M 200))), (7, .int (nI (M 199))), (6, .int (nI (dL M A))), (5, .int (nI (dO M A 0))), (4, .int (nI (es M (dO M A) 127 127))), (3, .int (nI (dU M A))), (2, .int (nI (dT_ M A))), (0, .ref c0), (1, .int (nI A))] := hl
                                  refine lv_iload hx hb dL_isDivided_309 (lv_at hl 3 rfl) ?_
                                  refine lv_iload hx hb dL_isDivided_311 (lv_at hl 5 rfl) ?_
                                  refine br_ieq (tgt := 323) hx hb dL_isDivided_313 (by decide) (by omega) (Nat.lt_trans (dO_in h0k hA0 hA (by omega)).1 (by decide)) (fun h82 => ?_) (fun h82 => ?_)
                                  · skip
                                    have hd6 := hd5 c (by omega) (by first | exact Or.inl (by assumption) | exact Or.inr (by assumption))
                                    refine lv_iload hx hb dL_isDivided_323 (lv_at hl 1 rfl) ?_
                                    have hwf : wf M c x.2 ≤ 7776 := sr_le (a := x.2) (n := 24 - x.2) h0k (by omega) (by omega)
                                    refine br_le0 (tgt := 339) hx hb dL_isDivided_325 (by decide) (by omega) (fun h83 => ?_) (fun h83 => ?_)
                                    · skip
                                      refine nr_inc (d := 1) (v := c + 1) (lv' := [(14, .int (nI (c + 1))), (17, .int (nI (x.2 + (24 - x.2)))), (16, .int (nI (wf M c x.2))), (15, .int (nI (sr (wr M c) x.2 (t - 1 - x.2)))), (13, .int (nI t)), (12, .int (nI (dO M A x.2))), (11, .int (nI x.2)), (10, .int (nI x.1)), (9, .int (nI (M 198))), (8, .int (nI (M 200))), (7, .int (nI (M 199))), (6, .int (nI (dL M A))), (5, .int (nI (dO M A 0))), (4, .int (nI (es M (dO M A) 127 127))), (3, .int (nI (dU M A))), (2, .int (nI (dT_ M A))), (0, .ref c0), (1, .int (nI A))]) hx hb dL_isDivided_339 hl (k := 3) rfl rfl (by decide) rfl (fun ls hl => ?_)
                                      refine lv_goto (tgt := 236) hx hb dL_isDivided_342 (by decide) ?_
                                      exact ih76 (c + 1) ls H locs (lv_sub hl [0, 4, 5, 6, 7, 8, 9, 10, 11, 12, 13, 14, 15, 16, 17] rfl) hO hS (by omega) (by omega)
                                    · skip
                                      refine nr_const (v := 2) hx hb dL_isDivided_328 rfl ?_
                                      refine lv_iload hx hb dL_isDivided_329 (lv_at hl 2 rfl) ?_
                                      refine nr_mul hx hb dL_isDivided_331 ?_
                                      refine lv_iload hx hb dL_isDivided_332 (lv_at hl 1 rfl) ?_
                                      refine br_ilt (tgt := 339) hx hb dL_isDivided_334 (by decide) (by omega) (by omega) (fun h84 => ?_) (fun h84 => ?_)
                                      · skip
                                        refine nr_inc (d := 1) (v := c + 1) (lv' := [(14, .int (nI (c + 1))), (17, .int (nI (x.2 + (24 - x.2)))), (16, .int (nI (wf M c x.2))), (15, .int (nI (sr (wr M c) x.2 (t - 1 - x.2)))), (13, .int (nI t)), (12, .int (nI (dO M A x.2))), (11, .int (nI x.2)), (10, .int (nI x.1)), (9, .int (nI (M 198))), (8, .int (nI (M 200))), (7, .int (nI (M 199))), (6, .int (nI (dL M A))), (5, .int (nI (dO M A 0))), (4, .int (nI (es M (dO M A) 127 127))), (3, .int (nI (dU M A))), (2, .int (nI (dT_ M A))), (0, .ref c0), (1, .int (nI A))]) hx hb dL_isDivided_339 hl (k := 3) rfl rfl (by decide) rfl (fun ls hl => ?_)
                                        refine lv_goto (tgt := 236) hx hb dL_isDivided_342 (by decide) ?_
                                        exact ih76 (c + 1) ls H locs (lv_sub hl [0, 4, 5, 6, 7, 8, 9, 10, 11, 12, 13, 14, 15, 16, 17] rfl) hO hS (by omega) (by omega)
                                      · exact absurd hd6 h84
                                  · skip
                                    refine lv_iload hx hb dL_isDivided_316 (lv_at hl 3 rfl) ?_
                                    refine lv_iload hx hb dL_isDivided_318 (lv_at hl 11 rfl) ?_
                                    refine br_ine (tgt := 339) hx hb dL_isDivided_320 (by decide) (by omega) (by omega) (fun h85 => ?_) (fun h85 => ?_)
                                    · skip
                                      refine nr_inc (d := 1) (v := c + 1) (lv' := [(14, .int (nI (c + 1))), (17, .int (nI (x.2 + (24 - x.2)))), (16, .int (nI (wf M c x.2))), (15, .int (nI (sr (wr M c) x.2 (t - 1 - x.2)))), (13, .int (nI t)), (12, .int (nI (dO M A x.2))), (11, .int (nI x.2)), (10, .int (nI x.1)), (9, .int (nI (M 198))), (8, .int (nI (M 200))), (7, .int (nI (M 199))), (6, .int (nI (dL M A))), (5, .int (nI (dO M A 0))), (4, .int (nI (es M (dO M A) 127 127))), (3, .int (nI (dU M A))), (2, .int (nI (dT_ M A))), (0, .ref c0), (1, .int (nI A))]) hx hb dL_isDivided_339 hl (k := 3) rfl rfl (by decide) rfl (fun ls hl => ?_)
                                      refine lv_goto (tgt := 236) hx hb dL_isDivided_342 (by decide) ?_
                                      exact ih76 (c + 1) ls H locs (lv_sub hl [0, 4, 5, 6, 7, 8, 9, 10, 11, 12, 13, 14, 15, 16, 17] rfl) hO hS (by omega) (by omega)
                                    · skip
                                      have hd6 := hd5 c (by omega) (by first | exact Or.inl (by assumption) | exact Or.inr (by assumption))
                                      refine lv_iload hx hb dL_isDivided_323 (lv_at hl 1 rfl) ?_
                                      have hwf : wf M c x.2 ≤ 7776 := sr_le (a := x.2) (n := 24 - x.2) h0k (by omega) (by omega)
                                      refine br_le0 (tgt := 339) hx hb dL_isDivided_325 (by decide) (by omega) (fun h86 => ?_) (fun h86 => ?_)
                                      · skip
                                        refine nr_inc (d := 1) (v := c + 1) (lv' := [(14, .int (nI (c + 1))), (17, .int (nI (x.2 + (24 - x.2)))), (16, .int (nI (wf M c x.2))), (15, .int (nI (sr (wr M c) x.2 (t - 1 - x.2)))), (13, .int (nI t)), (12, .int (nI (dO M A x.2))), (11, .int (nI x.2)), (10, .int (nI x.1)), (9, .int (nI (M 198))), (8, .int (nI (M 200))), (7, .int (nI (M 199))), (6, .int (nI (dL M A))), (5, .int (nI (dO M A 0))), (4, .int (nI (es M (dO M A) 127 127))), (3, .int (nI (dU M A))), (2, .int (nI (dT_ M A))), (0, .ref c0), (1, .int (nI A))]) hx hb dL_isDivided_339 hl (k := 3) rfl rfl (by decide) rfl (fun ls hl => ?_)
                                        refine lv_goto (tgt := 236) hx hb dL_isDivided_342 (by decide) ?_
                                        exact ih76 (c + 1) ls H locs (lv_sub hl [0, 4, 5, 6, 7, 8, 9, 10, 11, 12, 13, 14, 15, 16, 17] rfl) hO hS (by omega) (by omega)
                                      · skip
                                        refine nr_const (v := 2) hx hb dL_isDivided_328 rfl ?_
                                        refine lv_iload hx hb dL_isDivided_329 (lv_at hl 2 rfl) ?_
                                        refine nr_mul hx hb dL_isDivided_331 ?_
                                        refine lv_iload hx hb dL_isDivided_332 (lv_at hl 1 rfl) ?_
                                        refine br_ilt (tgt := 339) hx hb dL_isDivided_334 (by decide) (by omega) (by omega) (fun h87 => ?_) (fun h87 => ?_)
                                        · skip
                                          refine nr_inc (d := 1) (v := c + 1) (lv' := [(14, .int (nI (c + 1))), (17, .int (nI (x.2 + (24 - x.2)))), (16, .int (nI (wf M c x.2))), (15, .int (nI (sr (wr M c) x.2 (t - 1 - x.2)))), (13, .int (nI t)), (12, .int (nI (dO M A x.2))), (11, .int (nI x.2)), (10, .int (nI x.1)), (9, .int (nI (M 198))), (8, .int (nI (M 200))), (7, .int (nI (M 199))), (6, .int (nI (dL M A))), (5, .int (nI (dO M A 0))), (4, .int (nI (es M (dO M A) 127 127))), (3, .int (nI (dU M A))), (2, .int (nI (dT_ M A))), (0, .ref c0), (1, .int (nI A))]) hx hb dL_isDivided_339 hl (k := 3) rfl rfl (by decide) rfl (fun ls hl => ?_)
                                          refine lv_goto (tgt := 236) hx hb dL_isDivided_342 (by decide) ?_
                                          exact ih76 (c + 1) ls H locs (lv_sub hl [0, 4, 5, 6, 7, 8, 9, 10, 11, 12, 13, 14, 15, 16, 17] rfl) hO hS (by omega) (by omega)
                                        · exact absurd hd6 h87
                                · skip
                                  refine lv_iload hx hb dL_isDivided_260 (lv_at hl 1 rfl) ?_
                                  refine lv_aload_n hx hb dL_isDivided_262 rfl (lv_at hl 16 rfl) ?_
                                  refine lv_iload hx hb dL_isDivided_263 (lv_at hl 0 rfl) ?_
                                  refine nr_const (v := 5) hx hb dL_isDivided_265 rfl ?_
                                  refine lv_iload hx hb dL_isDivided_266 (lv_at hl 3 rfl) ?_
                                  refine nr_add hx hb dL_isDivided_268 ?_
                                  refine k_plot ⟨hx, hb, hml, hown, hts⟩ (cwV 2 hts gL_isDivided_X5_plot rfl rfl rfl (by decide +kernel) ⟨Nat.le_of_ble_eq_true rfl, Nat.le_of_ble_eq_true rfl⟩) hK hNW hAA  hO hS hl.1 (Nat.le_of_ble_eq_true rfl) dL_isDivided_269 ⟨Nat.zero_le _, Nat.zero_le _⟩ ?_
                                  refine nr_top (y := nI (wr (dM M A) c (x.2 + k))) (pl_w (by omega) (by omega)) ?_
                                  refine nr_top (y := nI (wr M c (x.2 + k))) (congrArg nI (dM_wr (by omega) (by omega))) ?_
                                  refine nr_add hx hb dL_isDivided_272 ?_
                                  refine lv_istore (lv' := [(16, .int (nI ((sr (wr M c) x.2 k) + (wr M c (x.2 + k))))), (17, .int (nI (x.2 + k))), (15, .int (nI (sm (fun j => if t - 1 ≤ x.2 + j then 0 else wr M c (x.2 + j)) k))), (14, .int (nI c)), (13, .int (nI t)), (12, .int (nI (dO M A x.2))), (11, .int (nI x.2)), (10, .int (nI x.1)), (9, .int (nI (M 198))), (8, .int (nI (M 200))), (7, .int (nI (M 199))), (6, .int (nI (dL M A))), (5, .int (nI (dO M A 0))), (4, .int (nI (es M (dO M A) 127 127))), (3, .int (nI (dU M A))), (2, .int (nI (dT_ M A))), (0, .ref c0), (1, .int (nI A))]) hx hb dL_isDivided_273 hl (by decide) rfl (fun ls hl => ?_)
                                  refine lv_iload hx hb dL_isDivided_275 (lv_at hl 2 rfl) ?_
                                  refine lv_iload hx hb dL_isDivided_277 (lv_at hl 1 rfl) ?_
                                  refine lv_iload hx hb dL_isDivided_279 (lv_at hl 4 rfl) ?_
                                  refine nr_const (v := 1) hx hb dL_isDivided_281 rfl ?_
                                  refine nr_sub hx hb dL_isDivided_282 (by omega) ?_
                                  refine join_v (T := Nat) (J := 300) (nL := 18) (fun v => [(16, .int (nI ((sr (wr M c) x.2 k) + (wr M c (x.2 + k))))), (17, .int (nI (x.2 + k))), (15, .int (nI (sm (fun j => if t - 1 ≤ x.2 + j then 0 else wr M c (x.2 + j)) k))), (14, .int (nI c)), (13, .int (nI t)), (12, .int (nI (dO M A x.2))), (11, .int (nI x.2)), (10, .int (nI x.1)), (9, .int (nI (M 198))), (8, .int (nI (M 200))), (7, .int (nI (M 199))), (6, .int (nI (dL M A))), (5, .int (nI (dO M A 0))), (4, .int (nI (es M (dO M A) 127 127))), (3, .int (nI (dU M A))), (2, .int (nI (dT_ M A))), (0, .ref c0), (1, .int (nI A))]) (fun v => [.int (nI v), .int (nI (sm (fun j => if t - 1 ≤ x.2 + j then 0 else wr M c (x.2 + j)) k))]) (fun v => v = (if (t - 1) ≤ (x.2 + k) then 0 else (wr M c (x.2 + k)))) ?_ (fun jj88 => ?_)
                                  · intro v ls hl hv89
                                    subst hv89
                                    refine nr_add hx hb dL_isDivided_300 ?_
                                    refine lv_istore (lv' := [(15, .int (nI ((sm (fun j => if t - 1 ≤ x.2 + j then 0 else wr M c (x.2 + j)) k) + (if (t - 1) ≤ (x.2 + k) then 0 else (wr M c (x.2 + k)))))), (16, .int (nI ((sr (wr M c) x.2 k) + (wr M c (x.2 + k))))), (17, .int (nI (x.2 + k))), (14, .int (nI c)), (13, .int (nI t)), (12, .int (nI (dO M A x.2))), (11, .int (nI x.2)), (10, .int (nI x.1)), (9, .int (nI (M 198))), (8, .int (nI (M 200))), (7, .int (nI (M 199))), (6, .int (nI (dL M A))), (5, .int (nI (dO M A 0))), (4, .int (nI (es M (dO M A) 127 127))), (3, .int (nI (dU M A))), (2, .int (nI (dT_ M A))), (0, .ref c0), (1, .int (nI A))]) hx hb dL_isDivided_301 hl (by decide) rfl (fun ls hl => ?_)
                                    refine nr_inc (d := 1) (v := (x.2 + k) + 1) (lv' := [(17, .int (nI ((x.2 + k) + 1))), (15, .int (nI ((sm (fun j => if t - 1 ≤ x.2 + j then 0 else wr M c (x.2 + j)) k) + (if (t - 1) ≤ (x.2 + k) then 0 else (wr M c (x.2 + k)))))), (16, .int (nI ((sr (wr M c) x.2 k) + (wr M c (x.2 + k))))), (14, .int (nI c)), (13, .int (nI t)), (12, .int (nI (dO M A x.2))), (11, .int (nI x.2)), (10, .int (nI x.1)), (9, .int (nI (M 198))), (8, .int (nI (M 200))), (7, .int (nI (M 199))), (6, .int (nI (dL M A))), (5, .int (nI (dO M A 0))), (4, .int (nI (es M (dO M A) 127 127))), (3, .int (nI (dU M A))), (2, .int (nI (dT_ M A))), (0, .ref c0), (1, .int (nI A))]) hx hb dL_isDivided_303 hl (k := 2) rfl rfl (by decide) rfl (fun ls hl => ?_)
                                    refine lv_goto (tgt := 253) hx hb dL_isDivided_306 (by decide) ?_
                                    exact ih79 (k + 1) ls H locs (lv_sub hl [0, 2, 1, 3, 4, 5, 6, 7, 8, 9, 10, 11, 12, 13, 14, 15, 16, 17] rfl) hO hS (by omega) (by omega)
                                  · skip
                                    refine br_ige (tgt := 299) hx hb dL_isDivided_283 (by decide) (by omega) (by omega) (fun h90 => ?_) (fun h90 => ?_)
                                    · skip
                                      refine nr_const (v := 0) hx hb dL_isDivided_299 rfl ?_
                                      exact jj88 0 ls (lv_sub hl [0, 1, 2, 3, 4, 5, 6, 7, 8, 9, 10, 11, 12, 13, 14, 15, 16, 17] rfl) (by simp only [if_pos h90])
                                    · skip
                                      refine lv_aload_n hx hb dL_isDivided_286 rfl (lv_at hl 16 rfl) ?_
                                      refine lv_iload hx hb dL_isDivided_287 (lv_at hl 1 rfl) ?_
                                      refine nr_const (v := 5) hx hb dL_isDivided_289 rfl ?_
                                      refine lv_iload hx hb dL_isDivided_290 (lv_at hl 3 rfl) ?_
                                      refine nr_add hx hb dL_isDivided_292 ?_
                                      refine k_plot ⟨hx, hb, hml, hown, hts⟩ (cwV 2 hts gL_isDivided_X5_plot rfl rfl rfl (by decide +kernel) ⟨Nat.le_of_ble_eq_true rfl, Nat.le_of_ble_eq_true rfl⟩) hK hNW hAA  hO hS hl.1 (Nat.le_of_ble_eq_true rfl) dL_isDivided_293 ⟨Nat.zero_le _, Nat.zero_le _⟩ ?_
                                      refine nr_top (y := nI (wr (dM M A) c (x.2 + k))) (pl_w (by omega) (by omega)) ?_
                                      refine nr_top (y := nI (wr M c (x.2 + k))) (congrArg nI (dM_wr (by omega) (by omega))) ?_
                                      refine lv_goto (tgt := 300) hx hb dL_isDivided_296 (by decide) ?_
                                      exact jj88 (wr M c (x.2 + k)) ls (lv_sub hl [0, 1, 2, 3, 4, 5, 6, 7, 8, 9, 10, 11, 12, 13, 14, 15, 16, 17] rfl) (by simp only [if_neg h90])
                            · exact absurd h75 (by omega)
                          · skip
                            refine lv_iload hx hb dL_isDivided_211 (lv_at hl 0 rfl) ?_
                            refine nr_bi (v := 24) hx hb dL_isDivided_213 (by decide +kernel) ?_
                            refine br_ine (tgt := 221) hx hb dL_isDivided_215 (by decide) (by omega) (by decide) (fun h91 => ?_) (fun h91 => ?_)
                            · exact absurd (hds.elim (fun q => q.2) (fun q => absurd (by assumption) q.1)) h91
                            · skip
                              refine lv_goto (tgt := 363) hx hb dL_isDivided_218 (by decide) ?_
                              refine nr_const (v := 0) hx hb dL_isDivided_363 rfl ?_
                              refine lv_istore (lv' := [(12, .int (nI 0)), (13, .int (nI t)), (11, .int (nI x.2)), (10, .int (nI x.1)), (9, .int (nI (M 198))), (8, .int (nI (M 200))), (7, .int (nI (M 199))), (6, .int (nI (dL M A))), (5, .int (nI (dO M A 0))), (4, .int (nI (es M (dO M A) 127 127))), (3, .int (nI (dU M A))), (2, .int (nI (dT_ M A))), (0, .ref c0), (1, .int (nI A))]) hx hb dL_isDivided_364 hl (by decide) rfl (fun ls hl => ?_)
                              refine nr_const (v := 0) hx hb dL_isDivided_366 rfl ?_
                              refine lv_istore (lv' := [(13, .int (nI 0)), (12, .int (nI 0)), (11, .int (nI x.2)), (10, .int (nI x.1)), (9, .int (nI (M 198))), (8, .int (nI (M 200))), (7, .int (nI (M 199))), (6, .int (nI (dL M A))), (5, .int (nI (dO M A 0))), (4, .int (nI (es M (dO M A) 127 127))), (3, .int (nI (dU M A))), (2, .int (nI (dT_ M A))), (0, .ref c0), (1, .int (nI A))]) hx hb dL_isDivided_367 hl (by decide) rfl (fun ls hl => ?_)
                              refine loop_o (T := Nat) (nL := 18) (fun c => c ≤ 7) (fun c => 7 - c) (fun c => [(12, .int (nI (sm (fun j => pc4 (dO M A) j) c))), (9, .int (nI (M 198))), (8, .int (nI (M 200))), (7, .int (nI (M 199))), (6, .int (nI (dL M A))), (5, .int (nI (dO M A 0))), (4, .int (nI (es M (dO M A) 127 127))), (3, .int (nI (dU M A))), (2, .int (nI (dT_ M A))), (0, .ref c0), (1, .int (nI A)), (13, .int (nI c))]) (fun c => q_OB G AA c0 hbd (dM M A) (q_hM M)) ?_ 0 (lv_sub hl [1, 4, 5, 6, 7, 8, 9, 10, 11, 12, 13, 0] rfl) hO hS (by omega)
                              intro c ls H locs hl hO hS hi93 ih92
                              have hi93_0 := hi93
                              have hi93_0 : c ≤ 7 := hi93_0
                              have hO : q_OB G AA c0 hbd (dM M A) (q_hM M) _ := hO
                              have hl : lv_has ls 18 [(12, .int (nI (sm (fun j => pc4 (dO M A) j) c))), (9, .int (nI (M 198))), (8, .int (nI (M 200))), (7, .int (nI (M 199))), (6, .int (nI (dL M A))), (5, .int (nI (dO M A 0))), (4, .int (nI (es M (dO M A) 127 127))), (3, .int (nI (dU M A))), (2, .int (nI (dT_ M A))), (0, .ref c0), (1, .int (nI A)), (13, .int (nI c))] := hl
                              refine lv_iload hx hb dL_isDivided_369 (lv_at hl 11 rfl) ?_
                              refine nr_bi (v := 7) hx hb dL_isDivided_371 (by decide +kernel) ?_
                              refine br_ige (tgt := 415) hx hb dL_isDivided_373 (by decide) (by omega) (by decide) (fun h94 => ?_) (fun h94 => ?_)
                              · skip
                                have e2 : c = 7 := (by omega)
                                subst e2
                                have hl : lv_has ls 18 [(12, .int (nI (sm (fun j => pc4 (dO M A) j) 7))), (9, .int (nI (M 198))), (8, .int (nI (M 200))), (7, .int (nI (M 199))), (6, .int (nI (dL M A))), (5, .int (nI (dO M A 0))), (4, .int (nI (es M (dO M A) 127 127))), (3, .int (nI (dU M A))), (2, .int (nI (dT_ M A))), (0, .ref c0), (1, .int (nI A)), (13, .int (nI 7))] := hl
                                rw [dheld h0k hA0 hA] at hl
                                have hl : lv_has ls 18 [(12, .int (nI 24)), (9, .int (nI (M 198))), (8, .int (nI (M 200))), (7, .int (nI (M 199))), (6, .int (nI (dL M A))), (5, .int (nI (dO M A 0))), (4, .int (nI (es M (dO M A) 127 127))), (3, .int (nI (dU M A))), (2, .int (nI (dT_ M A))), (0, .ref c0), (1, .int (nI A)), (13, .int (nI 7))] := hl
                                refine lv_iload hx hb dL_isDivided_415 (lv_at hl 0 rfl) ?_
                                refine nr_bi (v := 24) hx hb dL_isDivided_417 (by decide +kernel) ?_
                                refine br_ine (tgt := 446) hx hb dL_isDivided_419 (by decide) (by decide) (by decide) (fun h95 => ?_) (fun h95 => ?_)
                                · exact absurd (by decide) h95
                                · skip
                                  refine lv_iload_n hx hb dL_isDivided_422 rfl (lv_at hl 10 rfl) ?_
                                  refine lv_iload hx hb dL_isDivided_423 (lv_at hl 4 rfl) ?_
                                  refine lv_ishr hx hb dL_isDivided_425 ?_
                                  refine nr_const (v := 1) hx hb dL_isDivided_426 rfl ?_
                                  refine lv_iand hx hb dL_isDivided_427 ?_
                                  refine nr_top (bt_shr (by omega) (by omega)) ?_
                                  refine nr_const (v := 1) hx hb dL_isDivided_428 rfl ?_
                                  refine br_ine (tgt := 446) hx hb dL_isDivided_429 (by decide) (by omega) (by decide) (fun h96 => ?_) (fun h96 => ?_)
                                  · exact absurd hLn h96
                                  · skip
                                    refine lv_iload hx hb dL_isDivided_432 (lv_at hl 1 rfl) ?_
                                    refine lv_aload_n hx hb dL_isDivided_434 rfl (lv_at hl 9 rfl) ?_
                                    refine nr_const (v := 1) hx hb dL_isDivided_435 rfl ?_
                                    refine k_total ⟨hx, hb, hml, hown, hts⟩ (cwV 1 hts gL_isDivided_X5_total rfl rfl rfl (by decide +kernel) ⟨Nat.le_of_ble_eq_true rfl, Nat.le_of_ble_eq_true rfl⟩) hK hNW hAA (by decide) hO hS hl.1 (Nat.le_of_ble_eq_true rfl) dL_isDivided_436 ⟨Nat.zero_le _, Nat.zero_le _⟩ (fun H locs hO hS => ?_)
                                    have hO : q_OB G AA c0 hbd (dM M A) (q_hM M) _ := hO
                                    refine nr_top (y := nI ((dM M A) 198)) (to_1) ?_
                                    refine nr_top (y := nI (M 198)) (congrArg nI (dM_ag M A 198 (by decide) (by decide)).symm) ?_
                                    refine br_ine (tgt := 446) hx hb dL_isDivided_439 (by decide) (by omega) (by omega) (fun h97 => ?_) (fun h97 => ?_)
                                    · exact absurd rfl h97
                                    · skip
                                      refine nr_const (v := 1) hx hb dL_isDivided_442 rfl ?_
                                      refine lv_goto (tgt := 447) hx hb dL_isDivided_443 (by decide) ?_
                                      exact obretz (post := fun (r : Int32) (u : Nat → Nat) => r = nI 1 ∧ (q_iv (hbd + 64) u)) (ob := fun (u : Nat → Nat) => q_OB G AA c0 (hbd + 64) u q_hT) hx hb hr hlk hS (dM M A) (q_OB_T (q_OB_le hO (by omega))) ⟨rfl, q_iv_le hdv (by omega)⟩ dL_isDivided_447
                              · skip
                                have hpc := pc4_le (dO M A) c
                                have hbc := bt_lt A c
                                have hhl := dheld_le h0k hA0 hA (n := c) (by omega)
                                refine lv_iload hx hb dL_isDivided_376 (lv_at hl 0 rfl) ?_
                                refine lv_aload_n hx hb dL_isDivided_378 rfl (lv_at hl 9 rfl) ?_
                                refine lv_iload hx hb dL_isDivided_379 (lv_at hl 11 rfl) ?_
                                refine nr_const (v := 4) hx hb dL_isDivided_381 rfl ?_
                                refine k_cousin ⟨hx, hb, hml, hown, hts⟩ (cwV 2 hts gL_isDivided_X5_cousin rfl rfl rfl (by decide +kernel) ⟨Nat.le_of_ble_eq_true rfl, Nat.le_of_ble_eq_true rfl⟩) hK hNW hAA  hO hS hl.1 (Nat.le_of_ble_eq_true rfl) dL_isDivided_382 ⟨Nat.zero_le _, Nat.zero_le _⟩ (fun H locs hO hS => ?_)
                                have hO : q_OB G AA c0 hbd (dM M A) (q_hM M) _ := hO
                                refine nr_top (y := nI (pc4 (ow (dM M A) 0) c)) (cz_4 (by omega)) ?_
                                refine nr_top (y := nI (pc4 (dO M A) c)) (congrArg nI dM_pc) ?_
                                refine nr_add hx hb dL_isDivided_385 ?_
                                refine lv_istore (lv' := [(12, .int (nI ((sm (fun j => pc4 (dO M A) j) c) + (pc4 (dO M A) c)))), (9, .int (nI (M 198))), (8, .int (nI (M 200))), (7, .int (nI (M 199))), (6, .int (nI (dL M A))), (5, .int (nI (dO M A 0))), (4, .int (nI (es M (dO M A) 127 127))), (3, .int (nI (dU M A))), (2, .int (nI (dT_ M A))), (0, .ref c0), (1, .int (nI A)), (13, .int (nI c))]) hx hb dL_isDivided_386 hl (by decide) rfl (fun ls hl => ?_)
                                refine lv_iload_n hx hb dL_isDivided_388 rfl (lv_at hl 10 rfl) ?_
                                refine lv_iload hx hb dL_isDivided_389 (lv_at hl 11 rfl) ?_
                                refine lv_ishr hx hb dL_isDivided_391 ?_
                                refine nr_const (v := 1) hx hb dL_isDivided_392 rfl ?_
                                refine lv_iand hx hb dL_isDivided_393 ?_
                                refine nr_top (bt_shr (by omega) (by omega)) ?_
                                refine br_ne0 (tgt := 409) hx hb dL_isDivided_394 (by decide) (by omega) (fun h98 => ?_) (fun h98 => ?_)
                                · skip
                                  refine nr_inc (d := 1) (v := c + 1) (lv' := [(13, .int (nI (c + 1))), (12, .int (nI ((sm (fun j => pc4 (dO M A) j) c) + (pc4 (dO M A) c)))), (9, .int (nI (M 198))), (8, .int (nI (M 200))), (7, .int (nI (M 199))), (6, .int (nI (dL M A))), (5, .int (nI (dO M A 0))), (4, .int (nI (es M (dO M A) 127 127))), (3, .int (nI (dU M A))), (2, .int (nI (dT_ M A))), (0, .ref c0), (1, .int (nI A))]) hx hb dL_isDivided_409 hl (k := 11) rfl rfl (by decide) rfl (fun ls hl => ?_)
                                  refine lv_goto (tgt := 369) hx hb dL_isDivided_412 (by decide) ?_
                                  exact ih92 (c + 1) ls H locs (lv_sub hl [1, 2, 3, 4, 5, 6, 7, 8, 9, 10, 11, 0] rfl) hO hS (by omega) (by omega)
                                · skip
                                  have hb1 : ¬ bt A c = 1 := (by omega)
                                  refine lv_aload_n hx hb dL_isDivided_397 rfl (lv_at hl 9 rfl) ?_
                                  refine lv_iload hx hb dL_isDivided_398 (lv_at hl 11 rfl) ?_
                                  refine nr_const (v := 4) hx hb dL_isDivided_400 rfl ?_
                                  refine k_cousin ⟨hx, hb, hml, hown, hts⟩ (cwV 2 hts gL_isDivided_X5_cousin rfl rfl rfl (by decide +kernel) ⟨Nat.le_of_ble_eq_true rfl, Nat.le_of_ble_eq_true rfl⟩) hK hNW hAA  hO hS hl.1 (Nat.le_of_ble_eq_true rfl) dL_isDivided_401 ⟨Nat.zero_le _, Nat.zero_le _⟩ (fun H locs hO hS => ?_)
                                  have hO : q_OB G AA c0 hbd (dM M A) (q_hM M) _ := hO
                                  refine nr_top (y := nI (pc4 (ow (dM M A) 0) c)) (cz_4 (by omega)) ?_
                                  refine nr_top (y := nI (pc4 (dO M A) c)) (congrArg nI dM_pc) ?_
                                  refine br_le0 (tgt := 409) hx hb dL_isDivided_404 (by decide) (by omega) (fun h99 => ?_) (fun h99 => ?_)
                                  · skip
                                    refine nr_inc (d := 1) (v := c + 1) (lv' := [(13, .int (nI (c + 1))), (12, .int (nI ((sm (fun j => pc4 (dO M A) j) c) + (pc4 (dO M A) c)))), (9, .int (nI (M 198))), (8, .int (nI (M 200))), (7, .int (nI (M 199))), (6, .int (nI (dL M A))), (5, .int (nI (dO M A 0))), (4, .int (nI (es M (dO M A) 127 127))), (3, .int (nI (dU M A))), (2, .int (nI (dT_ M A))), (0, .ref c0), (1, .int (nI A))]) hx hb dL_isDivided_409 hl (k := 11) rfl rfl (by decide) rfl (fun ls hl => ?_)
                                    refine lv_goto (tgt := 369) hx hb dL_isDivided_412 (by decide) ?_
                                    exact ih92 (c + 1) ls H locs (lv_sub hl [1, 2, 3, 4, 5, 6, 7, 8, 9, 10, 11, 0] rfl) hO hS (by omega) (by omega)
                                  · exact absurd (dnone h0k hA0 hA hb1) h99
                      · skip
                        refine nr_inc (d := 1) (v := t + 1) (lv' := [(13, .int (nI (t + 1))), (12, .int (nI (dO M A x.2))), (11, .int (nI x.2)), (10, .int (nI x.1)), (9, .int (nI (M 198))), (8, .int (nI (M 200))), (7, .int (nI (M 199))), (6, .int (nI (dL M A))), (5, .int (nI (dO M A 0))), (4, .int (nI (es M (dO M A) 127 127))), (3, .int (nI (dU M A))), (2, .int (nI (dT_ M A))), (0, .ref c0), (1, .int (nI A))]) hx hb dL_isDivided_191 hl (k := 0) rfl rfl (by decide) rfl (fun ls hl => ?_)
                        refine lv_goto (tgt := 172) hx hb dL_isDivided_194 (by decide) ?_
                        exact ih42 (t + 1) ls H locs (lv_sub hl [0, 1, 2, 3, 4, 5, 6, 7, 8, 9, 10, 11, 12, 13] rfl) hO hS ⟨by omega, by omega, fun k h1 h2 => by rcases Nat.lt_or_ge k t with z | z; exact hi_t3 k h1 z; rw [show k = t by omega]; assumption⟩ (by omega)
              · exact absurd hdU h7)
