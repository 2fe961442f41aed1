set_option maxHeartbeats 4000000 in
set_option maxRecDepth 100000 in
theorem m_isWithout (l : Launch) (G : gG) (AA : Nat → Prop) (c0 hbd : Nat) (M : Nat → Nat)   (hv : q_iv hbd M) : Met l yL_isWithout wsL_isWithout ({ frames := 6, cells := 0, slots := 0, locals := 156 } : Room) (q_PO G AA (q_OB G AA c0 hbd M q_hT) [.ref c0]) (va_Qi (fun (r : Int32) (u : Unit) => r = nI 1 ∧ (True)) (fun (u : Unit) (t : State) => (q_OB G AA c0 hbd M q_hT) t.heap) AA) 0 0 AA := obM (C := RL) rfl (by decide) rfl (Nat.le_of_ble_eq_true rfl) (fun pX eX sX mX bX meX cX ls hx hb hr hts hown hlk hml hAA hO hK hNW hS hl => by
  have hl : lv_has ls 9 [(0, .ref c0)] := hl
  have h0k := hv.1
  have hbw1 := bWz_1 M 6
  have hbw2 := bW_2 h0k 6
  refine lv_aload_n hx hb dL_isWithout_0 rfl (lv_at hl 0 rfl) ?_
  refine nr_const (v := 0) hx hb dL_isWithout_1 rfl ?_
  refine k_bestWithout ⟨hx, hb, hml, hown, hts⟩ (cwV 1 hts gL_isWithout_X5_bestWithout rfl rfl rfl (by decide +kernel) ⟨Nat.le_of_ble_eq_true rfl, Nat.le_of_ble_eq_true rfl⟩) hK hNW hAA  hO hS hl.1 (Nat.le_of_ble_eq_true rfl) dL_isWithout_2 ⟨Nat.zero_le _, Nat.zero_le _⟩ (fun H locs hO hS => ?_)
  have hO : q_OB G AA c0 hbd M q_hT _ := hO
  refine nr_top (y := nI ((bW M 6).1)) (bwz_0) ?_
  refine lv_istore_n (lv' := [(1, .int (nI ((bW M 6).1))), (0, .ref c0)]) hx hb dL_isWithout_5 rfl hl (by decide) rfl (fun ls hl => ?_)
  refine lv_aload_n hx hb dL_isWithout_6 rfl (lv_at hl 1 rfl) ?_
  refine nr_const (v := 1) hx hb dL_isWithout_7 rfl ?_
  refine k_bestWithout ⟨hx, hb, hml, hown, hts⟩ (cwV 1 hts gL_isWithout_X5_bestWithout rfl rfl rfl (by decide +kernel) ⟨Nat.le_of_ble_eq_true rfl, Nat.le_of_ble_eq_true rfl⟩) hK hNW hAA  hO hS hl.1 (Nat.le_of_ble_eq_true rfl) dL_isWithout_8 ⟨Nat.zero_le _, Nat.zero_le _⟩ (fun H locs hO hS => ?_)
  have hO : q_OB G AA c0 hbd M q_hT _ := hO
  refine nr_top (y := nI ((bW M 6).2)) (bwz_1) ?_
  refine lv_istore_n (lv' := [(2, .int (nI ((bW M 6).2))), (1, .int (nI ((bW M 6).1))), (0, .ref c0)]) hx hb dL_isWithout_11 rfl hl (by decide) rfl (fun ls hl => ?_)
  refine lv_iconst (v := (-1)) hx hb dL_isWithout_12 (by decide +kernel) ?_
  refine lv_istore_n (lv' := [(3, .int (-1)), (2, .int (nI ((bW M 6).2))), (1, .int (nI ((bW M 6).1))), (0, .ref c0)]) hx hb dL_isWithout_13 rfl hl (by decide) rfl (fun ls hl => ?_)
  refine nr_const (v := 0) hx hb dL_isWithout_14 rfl ?_
  refine lv_istore (lv' := [(4, .int (nI 0)), (3, .int (-1)), (2, .int (nI ((bW M 6).2))), (1, .int (nI ((bW M 6).1))), (0, .ref c0)]) hx hb dL_isWithout_15 hl (by decide) rfl (fun ls hl => ?_)
  refine nr_const (v := 0) hx hb dL_isWithout_17 rfl ?_
  refine lv_istore (lv' := [(5, .int (nI 0)), (4, .int (nI 0)), (3, .int (-1)), (2, .int (nI ((bW M 6).2))), (1, .int (nI ((bW M 6).1))), (0, .ref c0)]) hx hb dL_isWithout_18 hl (by decide) rfl (fun ls hl => ?_)
  refine loop_o (T := Nat) (nL := 9) (fun c => c ≤ 7) (fun c => 7 - c) (fun c => [(2, .int (nI ((bW M 6).2))), (1, .int (nI ((bW M 6).1))), (0, .ref c0), (3, .int (wB M c)), (4, .int (nI (wL M c))), (5, .int (nI c))]) (fun c => q_OB G AA c0 hbd M q_hT) ?_ 0 (lv_sub hl [3, 4, 5, 2, 1, 0] rfl) hO hS (by omega)
  intro c ls H locs hl hO hS hi2 ih1
  have hi2_0 := hi2
  have hi2_0 : c ≤ 7 := hi2_0
  have hO : q_OB G AA c0 hbd M q_hT _ := hO
  have hl : lv_has ls 9 [(2, .int (nI ((bW M 6).2))), (1, .int (nI ((bW M 6).1))), (0, .ref c0), (3, .int (wB M c)), (4, .int (nI (wL M c))), (5, .int (nI c))] := hl
  have hwl := wL_le h0k c
  have hwe := wE_le h0k c
  refine lv_iload hx hb dL_isWithout_20 (lv_at hl 5 rfl) ?_
  refine nr_bi (v := 7) hx hb dL_isWithout_22 (by decide +kernel) ?_
  refine br_ige (tgt := 180) hx hb dL_isWithout_24 (by decide) (by omega) (by decide) (fun h3 => ?_) (fun h3 => ?_)
  · skip
    have e2 : c = 7 := (by omega)
    subst e2
    have hl : lv_has ls 9 [(2, .int (nI ((bW M 6).2))), (1, .int (nI ((bW M 6).1))), (0, .ref c0), (3, .int (wB M 7)), (4, .int (nI (wL M 7))), (5, .int (nI 7))] := hl
    have hl : lv_has ls 9 [(2, .int (nI ((bW M 6).2))), (1, .int (nI ((bW M 6).1))), (0, .ref c0), (3, .int (nI ((bW M 6).1))), (4, .int (nI ((bW M 6).2))), (5, .int (nI 7))] := hl
    refine lv_iload_n hx hb dL_isWithout_180 rfl (lv_at hl 1 rfl) ?_
    refine lv_iload_n hx hb dL_isWithout_181 rfl (lv_at hl 3 rfl) ?_
    refine br_ine (tgt := 195) hx hb dL_isWithout_182 (by decide) (by omega) (by omega) (fun h4 => ?_) (fun h4 => ?_)
    · exact absurd rfl h4
    · skip
      refine lv_iload_n hx hb dL_isWithout_185 rfl (lv_at hl 0 rfl) ?_
      refine lv_iload hx hb dL_isWithout_186 (lv_at hl 4 rfl) ?_
      refine br_ine (tgt := 195) hx hb dL_isWithout_188 (by decide) (by omega) (by omega) (fun h5 => ?_) (fun h5 => ?_)
      · exact absurd rfl h5
      · skip
        refine nr_const (v := 1) hx hb dL_isWithout_191 rfl ?_
        refine lv_goto (tgt := 196) hx hb dL_isWithout_192 (by decide) ?_
        exact obretz (post := fun (r : Int32) (u : Unit) => r = nI 1 ∧ (True)) (ob := fun (u : Unit) => q_OB G AA c0 hbd M q_hT) hx hb hr hlk hS (()) (hO) ⟨rfl, trivial⟩ dL_isWithout_196
  · skip
    have hc7 : c < 7 := (by omega)
    have hdt := dT_le M (rmv 127 c)
    refine lv_aload_n hx hb dL_isWithout_27 rfl (lv_at hl 2 rfl) ?_
    refine nr_bi (v := 127) hx hb dL_isWithout_28 (by decide +kernel) ?_
    refine nr_const (v := 1) hx hb dL_isWithout_30 rfl ?_
    refine lv_iload hx hb dL_isWithout_31 (lv_at hl 5 rfl) ?_
    refine lv_ishl hx hb dL_isWithout_33 ?_
    refine nr_top (bt_shl (by omega)) ?_
    refine nr_sub hx hb dL_isWithout_34 (rm127 c (by omega)).1 ?_
    refine nr_top (y := nI (rmv 127 c)) (congrArg nI (rm127 c (by omega)).2) ?_
    refine k_divide ⟨hx, hb, hml, hown, hts⟩ (cwV 1 hts gL_isWithout_X5_divide rfl rfl rfl (by decide +kernel) ⟨Nat.le_of_ble_eq_true rfl, Nat.le_of_ble_eq_true rfl⟩) hK hNW hAA (rm_lt c (by omega)).1 (rm_lt c (by omega)).2 hv hO hS hl.1 (Nat.le_of_ble_eq_true rfl) dL_isWithout_35 ⟨Nat.zero_le _, Nat.zero_le _⟩ (fun H locs hO hS => ?_)
    have hO : q_OB G AA c0 hbd (dM M (rmv 127 c)) (q_hM M) _ := hO
    refine lv_istore (lv' := [(6, .int (nI (dT_ M (rmv 127 c)))), (2, .int (nI ((bW M 6).2))), (1, .int (nI ((bW M 6).1))), (0, .ref c0), (3, .int (wB M c)), (4, .int (nI (wL M c))), (5, .int (nI c))]) hx hb dL_isWithout_38 hl (by decide) rfl (fun ls hl => ?_)
    refine nr_const (v := 0) hx hb dL_isWithout_40 rfl ?_
    refine lv_istore (lv' := [(7, .int (nI 0)), (6, .int (nI (dT_ M (rmv 127 c)))), (2, .int (nI ((bW M 6).2))), (1, .int (nI ((bW M 6).1))), (0, .ref c0), (3, .int (wB M c)), (4, .int (nI (wL M c))), (5, .int (nI c))]) hx hb dL_isWithout_41 hl (by decide) rfl (fun ls hl => ?_)
    refine nr_const (v := 0) hx hb dL_isWithout_43 rfl ?_
    refine lv_istore (lv' := [(8, .int (nI 0)), (7, .int (nI 0)), (6, .int (nI (dT_ M (rmv 127 c)))), (2, .int (nI ((bW M 6).2))), (1, .int (nI ((bW M 6).1))), (0, .ref c0), (3, .int (wB M c)), (4, .int (nI (wL M c))), (5, .int (nI c))]) hx hb dL_isWithout_44 hl (by decide) rfl (fun ls hl => ?_)
    refine loop_o (T := Nat) (nL := 9) (fun k => k ≤ 49) (fun k => 49 - k) (fun k => [(8, .int (nI k)), (7, .int (nI (sm (wt M c) k))), (6, .int (nI (dT_ M (rmv 127 c)))), (2, .int (nI ((bW M 6).2))), (1, .int (nI ((bW M 6).1))), (0, .ref c0), (3, .int (wB M c)), (4, .int (nI (wL M c))), (5, .int (nI c))]) (fun k => q_OB G AA c0 hbd (dM M (rmv 127 c)) (q_hM M)) ?_ 0 (lv_sub hl [0, 1, 2, 3, 4, 5, 6, 7, 8] rfl) hO hS (by omega)
    intro k ls H locs hl hO hS hi7 ih6
    have hi7_0 := hi7
    have hi7_0 : k ≤ 49 := hi7_0
    have hO : q_OB G AA c0 hbd (dM M (rmv 127 c)) (q_hM M) _ := hO
    have hl : lv_has ls 9 [(8, .int (nI k)), (7, .int (nI (sm (wt M c) k))), (6, .int (nI (dT_ M (rmv 127 c)))), (2, .int (nI ((bW M 6).2))), (1, .int (nI ((bW M 6).1))), (0, .ref c0), (3, .int (wB M c)), (4, .int (nI (wL M c))), (5, .int (nI c))] := hl
    refine lv_iload hx hb dL_isWithout_46 (lv_at hl 0 rfl) ?_
    refine nr_bi (v := 49) hx hb dL_isWithout_48 (by decide +kernel) ?_
    refine br_ige (tgt := 116) hx hb dL_isWithout_50 (by decide) (by omega) (by decide) (fun h8 => ?_) (fun h8 => ?_)
    · skip
      have e2 : k = 49 := (by omega)
      subst e2
      have hl : lv_has ls 9 [(8, .int (nI 49)), (7, .int (nI (sm (wt M c) 49))), (6, .int (nI (dT_ M (rmv 127 c)))), (2, .int (nI ((bW M 6).2))), (1, .int (nI ((bW M 6).1))), (0, .ref c0), (3, .int (wB M c)), (4, .int (nI (wL M c))), (5, .int (nI c))] := hl
      rw [wt_e M hc7] at hl
      have hl : lv_has ls 9 [(8, .int (nI 49)), (7, .int (nI (wE M c))), (6, .int (nI (dT_ M (rmv 127 c)))), (2, .int (nI ((bW M 6).2))), (1, .int (nI ((bW M 6).1))), (0, .ref c0), (3, .int (wB M c)), (4, .int (nI (wL M c))), (5, .int (nI c))] := hl
      refine lv_iload_n hx hb dL_isWithout_116 rfl (lv_at hl 6 rfl) ?_
      refine lv_if_lt (tgt := 127) hx hb dL_isWithout_117 (by decide) (fun h9 => ?_) (fun h9 => ?_)
      · skip
        refine nr_const (v := 1) hx hb dL_isWithout_127 rfl ?_
        refine lv_goto (tgt := 132) hx hb dL_isWithout_128 (by decide) ?_
        refine lv_istore (lv' := [(8, .int (nI 1)), (7, .int (nI (wE M c))), (6, .int (nI (dT_ M (rmv 127 c)))), (2, .int (nI ((bW M 6).2))), (1, .int (nI ((bW M 6).1))), (0, .ref c0), (3, .int (wB M c)), (4, .int (nI (wL M c))), (5, .int (nI c))]) hx hb dL_isWithout_132 hl (by decide) rfl (fun ls hl => ?_)
        refine lv_iload hx hb dL_isWithout_134 (lv_at hl 0 rfl) ?_
        refine br_eq0 (tgt := 144) hx hb dL_isWithout_136 (by decide) (by decide) (fun h10 => ?_) (fun h10 => ?_)
        · exact absurd h10 (by decide)
        · skip
          refine lv_iload hx hb dL_isWithout_139 (lv_at hl 8 rfl) ?_
          refine lv_goto (tgt := 145) hx hb dL_isWithout_141 (by decide) ?_
          refine lv_istore_n (lv' := [(3, .int (nI c)), (8, .int (nI 1)), (7, .int (nI (wE M c))), (6, .int (nI (dT_ M (rmv 127 c)))), (2, .int (nI ((bW M 6).2))), (1, .int (nI ((bW M 6).1))), (0, .ref c0), (4, .int (nI (wL M c))), (5, .int (nI c))]) hx hb dL_isWithout_145 rfl hl (by decide) rfl (fun ls hl => ?_)
          refine lv_iload hx hb dL_isWithout_146 (lv_at hl 1 rfl) ?_
          refine br_eq0 (tgt := 156) hx hb dL_isWithout_148 (by decide) (by decide) (fun h11 => ?_) (fun h11 => ?_)
          · exact absurd h11 (by decide)
          · skip
            refine lv_iload hx hb dL_isWithout_151 (lv_at hl 2 rfl) ?_
            refine lv_goto (tgt := 158) hx hb dL_isWithout_153 (by decide) ?_
            refine lv_istore (lv' := [(4, .int (nI (wE M c))), (3, .int (nI c)), (8, .int (nI 1)), (7, .int (nI (wE M c))), (6, .int (nI (dT_ M (rmv 127 c)))), (2, .int (nI ((bW M 6).2))), (1, .int (nI ((bW M 6).1))), (0, .ref c0), (5, .int (nI c))]) hx hb dL_isWithout_158 hl (by decide) rfl (fun ls hl => ?_)
            refine lv_iload hx hb dL_isWithout_160 (lv_at hl 4 rfl) ?_
            refine br_lt0 (tgt := 172) hx hb dL_isWithout_162 (by decide) (by omega) ?_
            refine lv_aload_n hx hb dL_isWithout_165 rfl (lv_at hl 7 rfl) ?_
            refine k_undo ⟨hx, hb, hml, hown, hts⟩ (cwV 0 hts gL_isWithout_X5_undo rfl rfl rfl (by decide +kernel) ⟨Nat.le_of_ble_eq_true rfl, Nat.le_of_ble_eq_true rfl⟩) hK hNW hAA  hO hS hl.1 (Nat.le_of_ble_eq_true rfl) dL_isWithout_166 ⟨Nat.zero_le _, Nat.zero_le _⟩ (fun H locs n12 en12 hO hS => ?_)
            have hO : q_OB G AA c0 hbd M q_hT _ := hO
            refine br_ge0 (tgt := 174) hx hb dL_isWithout_169 (by decide) (by omega) ?_
            refine nr_inc (d := 1) (v := c + 1) (lv' := [(5, .int (nI (c + 1))), (4, .int (nI (wE M c))), (3, .int (nI c)), (8, .int (nI 1)), (7, .int (nI (wE M c))), (6, .int (nI (dT_ M (rmv 127 c)))), (2, .int (nI ((bW M 6).2))), (1, .int (nI ((bW M 6).1))), (0, .ref c0)]) hx hb dL_isWithout_174 hl (k := 8) rfl rfl (by decide) rfl (fun ls hl => ?_)
            refine lv_goto (tgt := 20) hx hb dL_isWithout_177 (by decide) ?_
            obtain ⟨efx1, efx2⟩ := wB_y (M := M) (c := c) (by omega) (by first | exact Or.inl (by assumption) | exact Or.inr (by assumption))
            exact ih1 (c + 1) ls H locs (by show lv_has ls 9 [(2, .int (nI ((bW M 6).2))), (1, .int (nI ((bW M 6).1))), (0, .ref c0), (3, .int (wB M (c + 1))), (4, .int (nI (wL M (c + 1)))), (5, .int (nI (c + 1)))]; rw [efx1, efx2]; exact lv_sub hl [6, 7, 8, 2, 1, 0] rfl) hO hS (by omega) (by omega)
      · skip
        refine lv_iload hx hb dL_isWithout_120 (lv_at hl 1 rfl) ?_
        refine lv_iload hx hb dL_isWithout_122 (lv_at hl 7 rfl) ?_
        refine br_ige (tgt := 131) hx hb dL_isWithout_124 (by decide) (by omega) (by omega) (fun h13 => ?_) (fun h13 => ?_)
        · skip
          refine nr_const (v := 0) hx hb dL_isWithout_131 rfl ?_
          refine lv_istore (lv' := [(8, .int (nI 0)), (7, .int (nI (wE M c))), (6, .int (nI (dT_ M (rmv 127 c)))), (2, .int (nI ((bW M 6).2))), (1, .int (nI ((bW M 6).1))), (0, .ref c0), (3, .int (wB M c)), (4, .int (nI (wL M c))), (5, .int (nI c))]) hx hb dL_isWithout_132 hl (by decide) rfl (fun ls hl => ?_)
          refine lv_iload hx hb dL_isWithout_134 (lv_at hl 0 rfl) ?_
          refine br_eq0 (tgt := 144) hx hb dL_isWithout_136 (by decide) (by decide) (fun h14 => ?_) (fun h14 => ?_)
          · skip
            refine lv_iload_n hx hb dL_isWithout_144 rfl (lv_at hl 6 rfl) ?_
            refine lv_istore_n (lv' := [(3, .int (wB M c)), (8, .int (nI 0)), (7, .int (nI (wE M c))), (6, .int (nI (dT_ M (rmv 127 c)))), (2, .int (nI ((bW M 6).2))), (1, .int (nI ((bW M 6).1))), (0, .ref c0), (4, .int (nI (wL M c))), (5, .int (nI c))]) hx hb dL_isWithout_145 rfl hl (by decide) rfl (fun ls hl => ?_)
            refine lv_iload hx hb dL_isWithout_146 (lv_at hl 1 rfl) ?_
            refine br_eq0 (tgt := 156) hx hb dL_isWithout_148 (by decide) (by decide) (fun h15 => ?_) (fun h15 => ?_)
            · skip
              refine lv_iload hx hb dL_isWithout_156 (lv_at hl 7 rfl) ?_
              refine lv_istore (lv' := [(4, .int (nI (wL M c))), (3, .int (wB M c)), (8, .int (nI 0)), (7, .int (nI (wE M c))), (6, .int (nI (dT_ M (rmv 127 c)))), (2, .int (nI ((bW M 6).2))), (1, .int (nI ((bW M 6).1))), (0, .ref c0), (5, .int (nI c))]) hx hb dL_isWithout_158 hl (by decide) rfl (fun ls hl => ?_)
              refine lv_iload hx hb dL_isWithout_160 (lv_at hl 4 rfl) ?_
              refine br_lt0 (tgt := 172) hx hb dL_isWithout_162 (by decide) (by omega) ?_
              refine lv_aload_n hx hb dL_isWithout_165 rfl (lv_at hl 7 rfl) ?_
              refine k_undo ⟨hx, hb, hml, hown, hts⟩ (cwV 0 hts gL_isWithout_X5_undo rfl rfl rfl (by decide +kernel) ⟨Nat.le_of_ble_eq_true rfl, Nat.le_of_ble_eq_true rfl⟩) hK hNW hAA  hO hS hl.1 (Nat.le_of_ble_eq_true rfl) dL_isWithout_166 ⟨Nat.zero_le _, Nat.zero_le _⟩ (fun H locs n16 en16 hO hS => ?_)
              have hO : q_OB G AA c0 hbd M q_hT _ := hO
              refine br_ge0 (tgt := 174) hx hb dL_isWithout_169 (by decide) (by omega) ?_
              refine nr_inc (d := 1) (v := c + 1) (lv' := [(5, .int (nI (c + 1))), (4, .int (nI (wL M c))), (3, .int (wB M c)), (8, .int (nI 0)), (7, .int (nI (wE M c))), (6, .int (nI (dT_ M (rmv 127 c)))), (2, .int (nI ((bW M 6).2))), (1, .int (nI ((bW M 6).1))), (0, .ref c0)]) hx hb dL_isWithout_174 hl (k := 8) rfl rfl (by decide) rfl (fun ls hl => ?_)
              refine lv_goto (tgt := 20) hx hb dL_isWithout_177 (by decide) ?_
              obtain ⟨efx1, efx2⟩ := wB_n (M := M) (c := c) (by assumption) (by assumption)
              exact ih1 (c + 1) ls H locs (by show lv_has ls 9 [(2, .int (nI ((bW M 6).2))), (1, .int (nI ((bW M 6).1))), (0, .ref c0), (3, .int (wB M (c + 1))), (4, .int (nI (wL M (c + 1)))), (5, .int (nI (c + 1)))]; rw [efx1, efx2]; exact lv_sub hl [6, 7, 8, 2, 1, 0] rfl) hO hS (by omega) (by omega)
            · exact absurd (by decide) h15
          · exact absurd (by decide) h14
        · skip
          refine nr_const (v := 1) hx hb dL_isWithout_127 rfl ?_
          refine lv_goto (tgt := 132) hx hb dL_isWithout_128 (by decide) ?_
          refine lv_istore (lv' := [(8, .int (nI 1)), (7, .int (nI (wE M c))), (6, .int (nI (dT_ M (rmv 127 c)))), (2, .int (nI ((bW M 6).2))), (1, .int (nI ((bW M 6).1))), (0, .ref c0), (3, .int (wB M c)), (4, .int (nI (wL M c))), (5, .int (nI c))]) hx hb dL_isWithout_132 hl (by decide) rfl (fun ls hl => ?_)
          refine lv_iload hx hb dL_isWithout_134 (lv_at hl 0 rfl) ?_
          refine br_eq0 (tgt := 144) hx hb dL_isWithout_136 (by decide) (by decide) (fun h17 => ?_) (fun h17 => ?_)
          · exact absurd h17 (by decide)
          · skip
            refine lv_iload hx hb dL_isWithout_139 (lv_at hl 8 rfl) ?_
            refine lv_goto (tgt := 145) hx hb dL_isWithout_141 (by decide) ?_
            refine lv_istore_n (lv' := [(3, .int (nI c)), (8, .int (nI 1)), (7, .int (nI (wE M c))), (6, .int (nI (dT_ M (rmv 127 c)))), (2, .int (nI ((bW M 6).2))), (1, .int (nI ((bW M 6).1))), (0, .ref c0), (4, .int (nI (wL M c))), (5, .int (nI c))]) hx hb dL_isWithout_145 rfl hl (by decide) rfl (fun ls hl => ?_)
            refine lv_iload hx hb dL_isWithout_146 (lv_at hl 1 rfl) ?_
            refine br_eq0 (tgt := 156) hx hb dL_isWithout_148 (by decide) (by decide) (fun h18 => ?_) (fun h18 => ?_)
            · exact absurd h18 (by decide)
            · skip
              refine lv_iload hx hb dL_isWithout_151 (lv_at hl 2 rfl) ?_
              refine lv_goto (tgt := 158) hx hb dL_isWithout_153 (by decide) ?_
              refine lv_istore (lv' := [(4, .int (nI (wE M c))), (3, .int (nI c)), (8, .int (nI 1)), (7, .int (nI (wE M c))), (6, .int (nI (dT_ M (rmv 127 c)))), (2, .int (nI ((bW M 6).2))), (1, .int (nI ((bW M 6).1))), (0, .ref c0), (5, .int (nI c))]) hx hb dL_isWithout_158 hl (by decide) rfl (fun ls hl => ?_)
              refine lv_iload hx hb dL_isWithout_160 (lv_at hl 4 rfl) ?_
              refine br_lt0 (tgt := 172) hx hb dL_isWithout_162 (by decide) (by omega) ?_
              refine lv_aload_n hx hb dL_isWithout_165 rfl (lv_at hl 7 rfl) ?_
              refine k_undo ⟨hx, hb, hml, hown, hts⟩ (cwV 0 hts gL_isWithout_X5_undo rfl rfl rfl (by decide +kernel) ⟨Nat.le_of_ble_eq_true rfl, Nat.le_of_ble_eq_true rfl⟩) hK hNW hAA  hO hS hl.1 (Nat.le_of_ble_eq_true rfl) dL_isWithout_166 ⟨Nat.zero_le _, Nat.zero_le _⟩ (fun H locs n19 en19 hO hS => ?_)
              have hO : q_OB G AA c0 hbd M q_hT _ := hO
              refine br_ge0 (tgt := 174) hx hb dL_isWithout_169 (by decide) (by omega) ?_
              refine nr_inc (d := 1) (v := c + 1) (lv' := [(5, .int (nI (c + 1))), (4, .int (nI (wE M c))), (3, .int (nI c)), (8, .int (nI 1)), (7, .int (nI (wE M c))), (6, .int (nI (dT_ M (rmv 127 c)))), (2, .int (nI ((bW M 6).2))), (1, .int (nI ((bW M 6).1))), (0, .ref c0)]) hx hb dL_isWithout_174 hl (k := 8) rfl rfl (by decide) rfl (fun ls hl => ?_)
              refine lv_goto (tgt := 20) hx hb dL_isWithout_177 (by decide) ?_
              obtain ⟨efx1, efx2⟩ := wB_y (M := M) (c := c) (by omega) (by first | exact Or.inl (by assumption) | exact Or.inr (by assumption))
              exact ih1 (c + 1) ls H locs (by show lv_has ls 9 [(2, .int (nI ((bW M 6).2))), (1, .int (nI ((bW M 6).1))), (0, .ref c0), (3, .int (wB M (c + 1))), (4, .int (nI (wL M (c + 1)))), (5, .int (nI (c + 1)))]; rw [efx1, efx2]; exact lv_sub hl [6, 7, 8, 2, 1, 0] rfl) hO hS (by omega) (by omega)
    · skip
      refine lv_iload hx hb dL_isWithout_53 (lv_at hl 1 rfl) ?_
      refine lv_iload hx hb dL_isWithout_55 (lv_at hl 0 rfl) ?_
      refine nr_bi (v := 7) hx hb dL_isWithout_57 (by decide +kernel) ?_
      refine nr_div hx hb dL_isWithout_59 (by omega) (by decide) (by decide) ?_
      refine lv_iload hx hb dL_isWithout_60 (lv_at hl 8 rfl) ?_
      refine br_ieq (tgt := 106) hx hb dL_isWithout_62 (by decide) (by omega) (by omega) (fun h20 => ?_) (fun h20 => ?_)
      · skip
        refine nr_const (v := 0) hx hb dL_isWithout_106 rfl ?_
        refine nr_add hx hb dL_isWithout_107 ?_
        refine lv_istore (lv' := [(7, .int (nI ((sm (wt M c) k) + 0))), (8, .int (nI k)), (6, .int (nI (dT_ M (rmv 127 c)))), (2, .int (nI ((bW M 6).2))), (1, .int (nI ((bW M 6).1))), (0, .ref c0), (3, .int (wB M c)), (4, .int (nI (wL M c))), (5, .int (nI c))]) hx hb dL_isWithout_108 hl (by decide) rfl (fun ls hl => ?_)
        refine nr_inc (d := 1) (v := k + 1) (lv' := [(8, .int (nI (k + 1))), (7, .int (nI ((sm (wt M c) k) + 0))), (6, .int (nI (dT_ M (rmv 127 c)))), (2, .int (nI ((bW M 6).2))), (1, .int (nI ((bW M 6).1))), (0, .ref c0), (3, .int (wB M c)), (4, .int (nI (wL M c))), (5, .int (nI c))]) hx hb dL_isWithout_110 hl (k := 1) rfl rfl (by decide) rfl (fun ls hl => ?_)
        refine lv_goto (tgt := 46) hx hb dL_isWithout_113 (by decide) ?_
        have efx : sm (wt M c) (k + 1) = sm (wt M c) k + 0 := congrArg (fun z => sm (wt M c) k + z) (show wt M c k = 0 from by unfold wt; first | rw [if_pos (by assumption)] | rw [if_neg (by assumption), if_pos (by assumption)] | rw [if_neg (by assumption), if_neg (by assumption), if_pos (by assumption)] | rw [if_neg (by assumption), if_neg (by assumption), if_neg (by assumption)])
        exact ih6 (k + 1) ls H locs (by show lv_has ls 9 [(8, .int (nI (k + 1))), (7, .int (nI (sm (wt M c) (k + 1)))), (6, .int (nI (dT_ M (rmv 127 c)))), (2, .int (nI ((bW M 6).2))), (1, .int (nI ((bW M 6).1))), (0, .ref c0), (3, .int (wB M c)), (4, .int (nI (wL M c))), (5, .int (nI c))]; rw [efx]; exact lv_sub hl [0, 1, 2, 3, 4, 5, 6, 7, 8] rfl) hO hS (by omega) (by omega)
      · skip
        refine lv_iload hx hb dL_isWithout_65 (lv_at hl 0 rfl) ?_
        refine nr_bi (v := 7) hx hb dL_isWithout_67 (by decide +kernel) ?_
        refine nr_rem hx hb dL_isWithout_69 (by omega) (by decide) (by decide) ?_
        refine lv_iload hx hb dL_isWithout_70 (lv_at hl 8 rfl) ?_
        refine br_ieq (tgt := 106) hx hb dL_isWithout_72 (by decide) (by omega) (by omega) (fun h21 => ?_) (fun h21 => ?_)
        · skip
          refine nr_const (v := 0) hx hb dL_isWithout_106 rfl ?_
          refine nr_add hx hb dL_isWithout_107 ?_
          refine lv_istore (lv' := [(7, .int (nI ((sm (wt M c) k) + 0))), (8, .int (nI k)), (6, .int (nI (dT_ M (rmv 127 c)))), (2, .int (nI ((bW M 6).2))), (1, .int (nI ((bW M 6).1))), (0, .ref c0), (3, .int (wB M c)), (4, .int (nI (wL M c))), (5, .int (nI c))]) hx hb dL_isWithout_108 hl (by decide) rfl (fun ls hl => ?_)
          refine nr_inc (d := 1) (v := k + 1) (lv' := [(8, .int (nI (k + 1))), (7, .int (nI ((sm (wt M c) k) + 0))), (6, .int (nI (dT_ M (rmv 127 c)))), (2, .int (nI ((bW M 6).2))), (1, .int (nI ((bW M 6).1))), (0, .ref c0), (3, .int (wB M c)), (4, .int (nI (wL M c))), (5, .int (nI c))]) hx hb dL_isWithout_110 hl (k := 1) rfl rfl (by decide) rfl (fun ls hl => ?_)
          refine lv_goto (tgt := 46) hx hb dL_isWithout_113 (by decide) ?_
          have efx : sm (wt M c) (k + 1) = sm (wt M c) k + 0 := congrArg (fun z => sm (wt M c) k + z) (show wt M c k = 0 from by unfold wt; first | rw [if_pos (by assumption)] | rw [if_neg (by assumption), if_pos (by assumption)] | rw [if_neg (by assumption), if_neg (by assumption), if_pos (by assumption)] | rw [if_neg (by assumption), if_neg (by assumption), if_neg (by assumption)])
          exact ih6 (k + 1) ls H locs (by show lv_has ls 9 [(8, .int (nI (k + 1))), (7, .int (nI (sm (wt M c) (k + 1)))), (6, .int (nI (dT_ M (rmv 127 c)))), (2, .int (nI ((bW M 6).2))), (1, .int (nI ((bW M 6).1))), (0, .ref c0), (3, .int (wB M c)), (4, .int (nI (wL M c))), (5, .int (nI c))]; rw [efx]; exact lv_sub hl [0, 1, 2, 3, 4, 5, 6, 7, 8] rfl) hO hS (by omega) (by omega)
        · skip
          refine lv_iload hx hb dL_isWithout_75 (lv_at hl 0 rfl) ?_
          refine nr_bi (v := 7) hx hb dL_isWithout_77 (by decide +kernel) ?_
          refine nr_div hx hb dL_isWithout_79 (by omega) (by decide) (by decide) ?_
          refine lv_iload hx hb dL_isWithout_80 (lv_at hl 0 rfl) ?_
          refine nr_bi (v := 7) hx hb dL_isWithout_82 (by decide +kernel) ?_
          refine nr_rem hx hb dL_isWithout_84 (by omega) (by decide) (by decide) ?_
          refine br_ieq (tgt := 106) hx hb dL_isWithout_85 (by decide) (by omega) (by omega) (fun h22 => ?_) (fun h22 => ?_)
          · skip
            refine nr_const (v := 0) hx hb dL_isWithout_106 rfl ?_
            refine nr_add hx hb dL_isWithout_107 ?_
            refine lv_istore (lv' := [(7, .int (nI ((sm (wt M c) k) + 0))), (8, .int (nI k)), (6, .int (nI (dT_ M (rmv 127 c)))), (2, .int (nI ((bW M 6).2))), (1, .int (nI ((bW M 6).1))), (0, .ref c0), (3, .int (wB M c)), (4, .int (nI (wL M c))), (5, .int (nI c))]) hx hb dL_isWithout_108 hl (by decide) rfl (fun ls hl => ?_)
            refine nr_inc (d := 1) (v := k + 1) (lv' := [(8, .int (nI (k + 1))), (7, .int (nI ((sm (wt M c) k) + 0))), (6, .int (nI (dT_ M (rmv 127 c)))), (2, .int (nI ((bW M 6).2))), (1, .int (nI ((bW M 6).1))), (0, .ref c0), (3, .int (wB M c)), (4, .int (nI (wL M c))), (5, .int (nI c))]) hx hb dL_isWithout_110 hl (k := 1) rfl rfl (by decide) rfl (fun ls hl => ?_)
            refine lv_goto (tgt := 46) hx hb dL_isWithout_113 (by decide) ?_
            have efx : sm (wt M c) (k + 1) = sm (wt M c) k + 0 := congrArg (fun z => sm (wt M c) k + z) (show wt M c k = 0 from by unfold wt; first | rw [if_pos (by assumption)] | rw [if_neg (by assumption), if_pos (by assumption)] | rw [if_neg (by assumption), if_neg (by assumption), if_pos (by assumption)] | rw [if_neg (by assumption), if_neg (by assumption), if_neg (by assumption)])
            exact ih6 (k + 1) ls H locs (by show lv_has ls 9 [(8, .int (nI (k + 1))), (7, .int (nI (sm (wt M c) (k + 1)))), (6, .int (nI (dT_ M (rmv 127 c)))), (2, .int (nI ((bW M 6).2))), (1, .int (nI ((bW M 6).1))), (0, .ref c0), (3, .int (wB M c)), (4, .int (nI (wL M c))), (5, .int (nI c))]; rw [efx]; exact lv_sub hl [0, 1, 2, 3, 4, 5, 6, 7, 8] rfl) hO hS (by omega) (by omega)
          · skip
            refine lv_aload_n hx hb dL_isWithout_88 rfl (lv_at hl 5 rfl) ?_
            refine lv_iload hx hb dL_isWithout_89 (lv_at hl 0 rfl) ?_
            refine nr_bi (v := 7) hx hb dL_isWithout_91 (by decide +kernel) ?_
            refine nr_div hx hb dL_isWithout_93 (by omega) (by decide) (by decide) ?_
            refine lv_iload hx hb dL_isWithout_94 (lv_at hl 0 rfl) ?_
            refine nr_bi (v := 7) hx hb dL_isWithout_96 (by decide +kernel) ?_
            refine nr_rem hx hb dL_isWithout_98 (by omega) (by decide) (by decide) ?_
            refine nr_const (v := 3) hx hb dL_isWithout_99 rfl ?_
            refine k_pair ⟨hx, hb, hml, hown, hts⟩ (cwV 3 hts gL_isWithout_X5_pair rfl rfl rfl (by decide +kernel) ⟨Nat.le_of_ble_eq_true rfl, Nat.le_of_ble_eq_true rfl⟩) hK hNW hAA  hO hS hl.1 (Nat.le_of_ble_eq_true rfl) dL_isWithout_100 ⟨Nat.zero_le _, Nat.zero_le _⟩ (fun H locs hO hS => ?_)
            have hO : q_OB G AA c0 hbd (dM M (rmv 127 c)) (q_hM M) _ := hO
            refine nr_top (y := nI (ev (dM M (rmv 127 c)) (ow (dM M (rmv 127 c)) 0) (k / 7) (k % 7))) (pa_3 (by omega) (by omega) (by omega)) ?_
            refine nr_top (y := nI (ev M (dO M (rmv 127 c)) (k / 7) (k % 7))) (congrArg nI (dM_ev (by omega) (by omega))) ?_
            refine lv_goto (tgt := 107) hx hb dL_isWithout_103 (by decide) ?_
            refine nr_add hx hb dL_isWithout_107 ?_
            refine lv_istore (lv' := [(7, .int (nI ((sm (wt M c) k) + (ev M (dO M (rmv 127 c)) (k / 7) (k % 7))))), (8, .int (nI k)), (6, .int (nI (dT_ M (rmv 127 c)))), (2, .int (nI ((bW M 6).2))), (1, .int (nI ((bW M 6).1))), (0, .ref c0), (3, .int (wB M c)), (4, .int (nI (wL M c))), (5, .int (nI c))]) hx hb dL_isWithout_108 hl (by decide) rfl (fun ls hl => ?_)
            refine nr_inc (d := 1) (v := k + 1) (lv' := [(8, .int (nI (k + 1))), (7, .int (nI ((sm (wt M c) k) + (ev M (dO M (rmv 127 c)) (k / 7) (k % 7))))), (6, .int (nI (dT_ M (rmv 127 c)))), (2, .int (nI ((bW M 6).2))), (1, .int (nI ((bW M 6).1))), (0, .ref c0), (3, .int (wB M c)), (4, .int (nI (wL M c))), (5, .int (nI c))]) hx hb dL_isWithout_110 hl (k := 1) rfl rfl (by decide) rfl (fun ls hl => ?_)
            refine lv_goto (tgt := 46) hx hb dL_isWithout_113 (by decide) ?_
            have efx : sm (wt M c) (k + 1) = sm (wt M c) k + (ev M (dO M (rmv 127 c)) (k / 7) (k % 7)) := congrArg (fun z => sm (wt M c) k + z) (show wt M c k = (ev M (dO M (rmv 127 c)) (k / 7) (k % 7)) from by unfold wt; first | rw [if_pos (by assumption)] | rw [if_neg (by assumption), if_pos (by assumption)] | rw [if_neg (by assumption), if_neg (by assumption), if_pos (by assumption)] | rw [if_neg (by assumption), if_neg (by assumption), if_neg (by assumption)])
            exact ih6 (k + 1) ls H locs (by show lv_has ls 9 [(8, .int (nI (k + 1))), (7, .int (nI (sm (wt M c) (k + 1)))), (6, .int (nI (dT_ M (rmv 127 c)))), (2, .int (nI ((bW M 6).2))), (1, .int (nI ((bW M 6).1))), (0, .ref c0), (3, .int (wB M c)), (4, .int (nI (wL M c))), (5, .int (nI c))]; rw [efx]; exact lv_sub hl [0, 1, 2, 3, 4, 5, 6, 7, 8] rfl) hO hS (by omega) (by omega))
