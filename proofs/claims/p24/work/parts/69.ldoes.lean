set_option maxHeartbeats 4000000 in
set_option maxRecDepth 100000 in
theorem m_does (l : Launch) (G : gG) (AA : Nat → Prop) (c0 hbd : Nat) (M : Nat → Nat)  (v : Int32) (w : Int32) (hv : q_iv hbd M) (hnb : hbd < 1000000) : Met l yL_does wsL_does ({ frames := 8, cells := 0, slots := 0, locals := 209 } : Room) (q_PO G AA (q_OB G AA c0 hbd M q_hT) [.ref c0, .int v, .int w]) (va_Qi (fun (r : Int32) (u : Nat → Nat) => r = nI 1 ∧ (q_iv (hbd + 64) u)) (fun (u : Nat → Nat) (t : State) => (q_OB G AA c0 (hbd + 64) u q_hT) t.heap) AA) 0 0 AA := obM (C := RL) rfl (by decide) rfl (Nat.le_of_ble_eq_true rfl) (fun pX eX sX mX bX meX cX ls hx hb hr hts hown hlk hml hAA hO hK hNW hS hl => by
  have hl : lv_has ls 17 [(0, .ref c0), (1, .int v), (2, .int w)] := hl
  have h0k := hv.1
  refine lv_iload_n hx hb dL_does_0 rfl (lv_at hl 1 rfl) ?_
  refine nr_const (v := 4) hx hb dL_does_1 rfl ?_
  refine lv_ishr hx hb dL_does_2 ?_
  refine nr_bi (v := 24) hx hb dL_does_3 (by decide +kernel) ?_
  refine rcS (As := [.int (v >>> ((nI 4) &&& 31)), .int (nI 24)]) ⟨hx, hb, hml, hown, hts⟩ (c_L_low l (v >>> ((nI 4) &&& 31)) 24 (by omega) (by omega)) (va_cwS 2 hts gL_does_L_low rfl rfl rfl (by decide +kernel) ⟨Nat.le_of_ble_eq_true rfl, Nat.le_of_ble_eq_true rfl⟩) rfl hl.1 rfl (Nat.le_of_ble_eq_true rfl) dL_does_5 ⟨Nat.zero_le _, Nat.zero_le _⟩ ?_
  obtain ⟨kp, hkp, epkp⟩ : ∃ a, a < 24 ∧ nI (lo (v >>> ((nI 4) &&& 31)) 24) = nI a := ⟨_, lo_lt (by decide), rfl⟩
  refine nr_top epkp ?_
  refine lv_istore_n (lv' := [(3, .int (nI kp)), (0, .ref c0), (1, .int v), (2, .int w)]) hx hb dL_does_8 rfl hl (by decide) rfl (fun ls hl => ?_)
  refine lv_iload_n hx hb dL_does_9 rfl (lv_at hl 3 rfl) ?_
  refine nr_bi (v := 7) hx hb dL_does_10 (by decide +kernel) ?_
  refine rcS (As := [.int w, .int (nI 7)]) ⟨hx, hb, hml, hown, hts⟩ (c_L_low l w 7 (by omega) (by omega)) (va_cwS 2 hts gL_does_L_low rfl rfl rfl (by decide +kernel) ⟨Nat.le_of_ble_eq_true rfl, Nat.le_of_ble_eq_true rfl⟩) rfl hl.1 rfl (Nat.le_of_ble_eq_true rfl) dL_does_12 ⟨Nat.zero_le _, Nat.zero_le _⟩ ?_
  obtain ⟨kc, hkc, epkc⟩ : ∃ a, a < 7 ∧ nI (lo w 7) = nI a := ⟨_, lo_lt (by decide), rfl⟩
  refine nr_top epkc ?_
  refine lv_istore (lv' := [(4, .int (nI kc)), (3, .int (nI kp)), (0, .ref c0), (1, .int v), (2, .int w)]) hx hb dL_does_15 hl (by decide) rfl (fun ls hl => ?_)
  refine lv_iload_n hx hb dL_does_17 rfl (lv_at hl 4 rfl) ?_
  refine nr_const (v := 3) hx hb dL_does_18 rfl ?_
  refine lv_ishr hx hb dL_does_19 ?_
  refine nr_bi (v := 7) hx hb dL_does_20 (by decide +kernel) ?_
  refine rcS (As := [.int (w >>> ((nI 3) &&& 31)), .int (nI 7)]) ⟨hx, hb, hml, hown, hts⟩ (c_L_low l (w >>> ((nI 3) &&& 31)) 7 (by omega) (by omega)) (va_cwS 2 hts gL_does_L_low rfl rfl rfl (by decide +kernel) ⟨Nat.le_of_ble_eq_true rfl, Nat.le_of_ble_eq_true rfl⟩) rfl hl.1 rfl (Nat.le_of_ble_eq_true rfl) dL_does_22 ⟨Nat.zero_le _, Nat.zero_le _⟩ ?_
  obtain ⟨ko, hko, epko⟩ : ∃ a, a < 7 ∧ nI (lo (w >>> ((nI 3) &&& 31)) 7) = nI a := ⟨_, lo_lt (by decide), rfl⟩
  refine nr_top epko ?_
  refine lv_istore (lv' := [(5, .int (nI ko)), (4, .int (nI kc)), (3, .int (nI kp)), (0, .ref c0), (1, .int v), (2, .int w)]) hx hb dL_does_25 hl (by decide) rfl (fun ls hl => ?_)
  refine lv_iload_n hx hb dL_does_27 rfl (lv_at hl 5 rfl) ?_
  refine nr_bi (v := 6) hx hb dL_does_28 (by decide +kernel) ?_
  refine lv_ishr hx hb dL_does_30 ?_
  refine nr_bi (v := 10) hx hb dL_does_31 (by decide +kernel) ?_
  refine rcS (As := [.int (w >>> ((nI 6) &&& 31)), .int (nI 10)]) ⟨hx, hb, hml, hown, hts⟩ (c_L_low l (w >>> ((nI 6) &&& 31)) 10 (by omega) (by omega)) (va_cwS 2 hts gL_does_L_low rfl rfl rfl (by decide +kernel) ⟨Nat.le_of_ble_eq_true rfl, Nat.le_of_ble_eq_true rfl⟩) rfl hl.1 rfl (Nat.le_of_ble_eq_true rfl) dL_does_33 ⟨Nat.zero_le _, Nat.zero_le _⟩ ?_
  obtain ⟨kd, hkd, epkd⟩ : ∃ a, a < 10 ∧ nI (lo (w >>> ((nI 6) &&& 31)) 10) = nI a := ⟨_, lo_lt (by decide), rfl⟩
  refine nr_top epkd ?_
  refine lv_istore (lv' := [(6, .int (nI kd)), (5, .int (nI ko)), (4, .int (nI kc)), (3, .int (nI kp)), (0, .ref c0), (1, .int v), (2, .int w)]) hx hb dL_does_36 hl (by decide) rfl (fun ls hl => ?_)
  refine lv_iload_n hx hb dL_does_38 rfl (lv_at hl 5 rfl) ?_
  refine nr_bi (v := 18) hx hb dL_does_39 (by decide +kernel) ?_
  refine rcS (As := [.int v, .int (nI 18)]) ⟨hx, hb, hml, hown, hts⟩ (c_L_low l v 18 (by omega) (by omega)) (va_cwS 2 hts gL_does_L_low rfl rfl rfl (by decide +kernel) ⟨Nat.le_of_ble_eq_true rfl, Nat.le_of_ble_eq_true rfl⟩) rfl hl.1 rfl (Nat.le_of_ble_eq_true rfl) dL_does_41 ⟨Nat.zero_le _, Nat.zero_le _⟩ ?_
  obtain ⟨ks, hks, epks⟩ : ∃ a, a < 18 ∧ nI (lo v 18) = nI a := ⟨_, lo_lt (by decide), rfl⟩
  refine nr_top epks ?_
  rcases (show ks = 0 ∨ ks = 1 ∨ ks = 2 ∨ ks = 3 ∨ ks = 4 ∨ ks = 5 ∨ ks = 6 ∨ ks = 7 ∨ ks = 8 ∨ ks = 9 ∨ ks = 10 ∨ ks = 11 ∨ ks = 12 ∨ ks = 13 ∨ (¬ ks = 0 ∧ ¬ ks = 1 ∧ ¬ ks = 2 ∧ ¬ ks = 3 ∧ ¬ ks = 4 ∧ ¬ ks = 5 ∧ ¬ ks = 6 ∧ ¬ ks = 7 ∧ ¬ ks = 8 ∧ ¬ ks = 9 ∧ ¬ ks = 10 ∧ ¬ ks = 11 ∧ ¬ ks = 12 ∧ ¬ ks = 13) by omega) with h1 | h1 | h1 | h1 | h1 | h1 | h1 | h1 | h1 | h1 | h1 | h1 | h1 | h1 | h1
  · refine nr_top (congrArg nI h1) ?_
    refine lv_tableIn (off := 72) (tgt := 116) hx hb dL_does_44 (by decide) (by decide) rfl (by decide) ?_
    refine lv_aload_n hx hb dL_does_116 rfl (lv_at hl 4 rfl) ?_
    refine lv_iload_n hx hb dL_does_117 rfl (lv_at hl 3 rfl) ?_
    refine lv_iload_n hx hb dL_does_118 rfl (lv_at hl 6 rfl) ?_
    refine nr_const (v := 3) hx hb dL_does_119 rfl ?_
    refine lv_iand hx hb dL_does_120 ?_
    refine nr_top (y := nI (m2 w)) (m2_a w) ?_
    refine k_plot ⟨hx, hb, hml, hown, hts⟩ (cwV 2 hts gL_does_X5_plot rfl rfl rfl (by decide +kernel) ⟨Nat.le_of_ble_eq_true rfl, Nat.le_of_ble_eq_true rfl⟩) hK hNW hAA  hO hS hl.1 (Nat.le_of_ble_eq_true rfl) dL_does_121 ⟨Nat.zero_le _, Nat.zero_le _⟩ ?_
    refine nr_top (y := nI (M (0 + 4 * kp + (m2 w)))) (pl_a (by omega) (by first | omega | exact m2_lt _)) ?_
    refine lv_istore (lv' := [(7, .int (nI (M (0 + 4 * kp + (m2 w))))), (6, .int (nI kd)), (5, .int (nI ko)), (4, .int (nI kc)), (3, .int (nI kp)), (0, .ref c0), (1, .int v), (2, .int w)]) hx hb dL_does_124 hl (by decide) rfl (fun ls hl => ?_)
    refine lv_aload_n hx hb dL_does_126 rfl (lv_at hl 5 rfl) ?_
    refine lv_iload_n hx hb dL_does_127 rfl (lv_at hl 4 rfl) ?_
    refine lv_iload_n hx hb dL_does_128 rfl (lv_at hl 7 rfl) ?_
    refine nr_const (v := 3) hx hb dL_does_129 rfl ?_
    refine lv_iand hx hb dL_does_130 ?_
    refine nr_top (y := nI (m2 w)) (m2_a w) ?_
    refine lv_iload hx hb dL_does_131 (lv_at hl 1 rfl) ?_
    refine k_plant ⟨hx, hb, hml, hown, hts⟩ (cwV 3 hts gL_does_X5_plant rfl rfl rfl (by decide +kernel) ⟨Nat.le_of_ble_eq_true rfl, Nat.le_of_ble_eq_true rfl⟩) hK hNW hAA (pP_y hkp (m2_lt w) hkd) (oG_p hkp (m2_lt w) hkd) hv hO hS hl.1 (Nat.le_of_ble_eq_true rfl) dL_does_133 ⟨Nat.zero_le _, Nat.zero_le _⟩ (fun H locs hO hS => ?_)
    have hO : q_OB G AA c0 hbd (chM M (.inr (0 + 4 * kp + (m2 w), kd))) q_hT _ := hO
    have hb1 := am_lt h0k hkp (m2_lt w)
    refine lv_iload hx hb dL_does_136 (lv_at hl 0 rfl) ?_
    refine lv_iload hx hb dL_does_138 (lv_at hl 1 rfl) ?_
    refine br_ine (tgt := 148) hx hb dL_does_140 (by decide) (by omega) (by omega) (fun h2 => ?_) (fun h2 => ?_)
    · skip
      refine lv_iload hx hb dL_does_148 (lv_at hl 0 rfl) ?_
      refine lv_icmp_ne (tgt := 170) hx hb dL_does_150 (by decide) (fun h3 => ?_) (fun h3 => ?_)
      · exact absurd (by first | exact ch_e (by assumption) | exact ch_n (by assumption)) h3
      · skip
        refine lv_aload_n hx hb dL_does_153 rfl (lv_at hl 5 rfl) ?_
        refine lv_iload_n hx hb dL_does_154 rfl (lv_at hl 4 rfl) ?_
        refine lv_iload_n hx hb dL_does_155 rfl (lv_at hl 7 rfl) ?_
        refine nr_const (v := 3) hx hb dL_does_156 rfl ?_
        refine lv_iand hx hb dL_does_157 ?_
        refine nr_top (y := nI (m2 w)) (m2_a w) ?_
        refine k_plot ⟨hx, hb, hml, hown, hts⟩ (cwV 2 hts gL_does_X5_plot rfl rfl rfl (by decide +kernel) ⟨Nat.le_of_ble_eq_true rfl, Nat.le_of_ble_eq_true rfl⟩) hK hNW hAA  hO hS hl.1 (Nat.le_of_ble_eq_true rfl) dL_does_158 ⟨Nat.zero_le _, Nat.zero_le _⟩ ?_
        refine nr_top (y := nI ((chM M (.inr (0 + 4 * kp + (m2 w), kd))) (0 + 4 * kp + (m2 w)))) (pl_a (by omega) (by first | omega | exact m2_lt _)) ?_
        refine nr_top (y := nI kd) (congrArg nI (ch_at _ _ _)) ?_
        refine lv_iload hx hb dL_does_161 (lv_at hl 1 rfl) ?_
        refine br_ine (tgt := 170) hx hb dL_does_163 (by decide) (by omega) (by omega) (fun h4 => ?_) (fun h4 => ?_)
        · exact absurd rfl h4
        · skip
          refine nr_const (v := 1) hx hb dL_does_166 rfl ?_
          refine lv_goto (tgt := 171) hx hb dL_does_167 (by decide) ?_
          exact obretz (post := fun (r : Int32) (u : Nat → Nat) => r = nI 1 ∧ (q_iv (hbd + 64) u)) (ob := fun (u : Nat → Nat) => q_OB G AA c0 (hbd + 64) u q_hT) hx hb hr hlk hS (chM M (.inr (0 + 4 * kp + (m2 w), kd))) (q_OB_le hO (by omega)) ⟨rfl, q_iv_le (ch_iv hv (oG_p hkp (m2_lt w) hkd) (by have := m2_lt w; omega) (fun c hc => by have := m2_lt w; omega)) (by omega)⟩ dL_does_171
    · skip
      refine lv_bipush (v := (-5)) hx hb dL_does_143 (by decide +kernel) ?_
      refine lv_goto (tgt := 150) hx hb dL_does_145 (by decide) ?_
      refine lv_icmp_ne (tgt := 170) hx hb dL_does_150 (by decide) (fun h5 => ?_) (fun h5 => ?_)
      · exact absurd (by first | exact ch_e (by assumption) | exact ch_n (by assumption)) h5
      · skip
        refine lv_aload_n hx hb dL_does_153 rfl (lv_at hl 5 rfl) ?_
        refine lv_iload_n hx hb dL_does_154 rfl (lv_at hl 4 rfl) ?_
        refine lv_iload_n hx hb dL_does_155 rfl (lv_at hl 7 rfl) ?_
        refine nr_const (v := 3) hx hb dL_does_156 rfl ?_
        refine lv_iand hx hb dL_does_157 ?_
        refine nr_top (y := nI (m2 w)) (m2_a w) ?_
        refine k_plot ⟨hx, hb, hml, hown, hts⟩ (cwV 2 hts gL_does_X5_plot rfl rfl rfl (by decide +kernel) ⟨Nat.le_of_ble_eq_true rfl, Nat.le_of_ble_eq_true rfl⟩) hK hNW hAA  hO hS hl.1 (Nat.le_of_ble_eq_true rfl) dL_does_158 ⟨Nat.zero_le _, Nat.zero_le _⟩ ?_
        refine nr_top (y := nI ((chM M (.inr (0 + 4 * kp + (m2 w), kd))) (0 + 4 * kp + (m2 w)))) (pl_a (by omega) (by first | omega | exact m2_lt _)) ?_
        refine nr_top (y := nI kd) (congrArg nI (ch_at _ _ _)) ?_
        refine lv_iload hx hb dL_does_161 (lv_at hl 1 rfl) ?_
        refine br_ine (tgt := 170) hx hb dL_does_163 (by decide) (by omega) (by omega) (fun h6 => ?_) (fun h6 => ?_)
        · exact absurd rfl h6
        · skip
          refine nr_const (v := 1) hx hb dL_does_166 rfl ?_
          refine lv_goto (tgt := 171) hx hb dL_does_167 (by decide) ?_
          exact obretz (post := fun (r : Int32) (u : Nat → Nat) => r = nI 1 ∧ (q_iv (hbd + 64) u)) (ob := fun (u : Nat → Nat) => q_OB G AA c0 (hbd + 64) u q_hT) hx hb hr hlk hS (chM M (.inr (0 + 4 * kp + (m2 w), kd))) (q_OB_le hO (by omega)) ⟨rfl, q_iv_le (ch_iv hv (oG_p hkp (m2_lt w) hkd) (by have := m2_lt w; omega) (fun c hc => by have := m2_lt w; omega)) (by omega)⟩ dL_does_171
  · refine nr_top (congrArg nI h1) ?_
    refine lv_tableIn (off := 72) (tgt := 116) hx hb dL_does_44 (by decide) (by decide) rfl (by decide) ?_
    refine lv_aload_n hx hb dL_does_116 rfl (lv_at hl 4 rfl) ?_
    refine lv_iload_n hx hb dL_does_117 rfl (lv_at hl 3 rfl) ?_
    refine lv_iload_n hx hb dL_does_118 rfl (lv_at hl 6 rfl) ?_
    refine nr_const (v := 3) hx hb dL_does_119 rfl ?_
    refine lv_iand hx hb dL_does_120 ?_
    refine nr_top (y := nI (m2 w)) (m2_a w) ?_
    refine k_plot ⟨hx, hb, hml, hown, hts⟩ (cwV 2 hts gL_does_X5_plot rfl rfl rfl (by decide +kernel) ⟨Nat.le_of_ble_eq_true rfl, Nat.le_of_ble_eq_true rfl⟩) hK hNW hAA  hO hS hl.1 (Nat.le_of_ble_eq_true rfl) dL_does_121 ⟨Nat.zero_le _, Nat.zero_le _⟩ ?_
    refine nr_top (y := nI (M (0 + 4 * kp + (m2 w)))) (pl_a (by omega) (by first | omega | exact m2_lt _)) ?_
    refine lv_istore (lv' := [(7, .int (nI (M (0 + 4 * kp + (m2 w))))), (6, .int (nI kd)), (5, .int (nI ko)), (4, .int (nI kc)), (3, .int (nI kp)), (0, .ref c0), (1, .int v), (2, .int w)]) hx hb dL_does_124 hl (by decide) rfl (fun ls hl => ?_)
    refine lv_aload_n hx hb dL_does_126 rfl (lv_at hl 5 rfl) ?_
    refine lv_iload_n hx hb dL_does_127 rfl (lv_at hl 4 rfl) ?_
    refine lv_iload_n hx hb dL_does_128 rfl (lv_at hl 7 rfl) ?_
    refine nr_const (v := 3) hx hb dL_does_129 rfl ?_
    refine lv_iand hx hb dL_does_130 ?_
    refine nr_top (y := nI (m2 w)) (m2_a w) ?_
    refine lv_iload hx hb dL_does_131 (lv_at hl 1 rfl) ?_
    refine k_plant ⟨hx, hb, hml, hown, hts⟩ (cwV 3 hts gL_does_X5_plant rfl rfl rfl (by decide +kernel) ⟨Nat.le_of_ble_eq_true rfl, Nat.le_of_ble_eq_true rfl⟩) hK hNW hAA (pP_y hkp (m2_lt w) hkd) (oG_p hkp (m2_lt w) hkd) hv hO hS hl.1 (Nat.le_of_ble_eq_true rfl) dL_does_133 ⟨Nat.zero_le _, Nat.zero_le _⟩ (fun H locs hO hS => ?_)
    have hO : q_OB G AA c0 hbd (chM M (.inr (0 + 4 * kp + (m2 w), kd))) q_hT _ := hO
    have hb1 := am_lt h0k hkp (m2_lt w)
    refine lv_iload hx hb dL_does_136 (lv_at hl 0 rfl) ?_
    refine lv_iload hx hb dL_does_138 (lv_at hl 1 rfl) ?_
    refine br_ine (tgt := 148) hx hb dL_does_140 (by decide) (by omega) (by omega) (fun h7 => ?_) (fun h7 => ?_)
    · skip
      refine lv_iload hx hb dL_does_148 (lv_at hl 0 rfl) ?_
      refine lv_icmp_ne (tgt := 170) hx hb dL_does_150 (by decide) (fun h8 => ?_) (fun h8 => ?_)
      · exact absurd (by first | exact ch_e (by assumption) | exact ch_n (by assumption)) h8
      · skip
        refine lv_aload_n hx hb dL_does_153 rfl (lv_at hl 5 rfl) ?_
        refine lv_iload_n hx hb dL_does_154 rfl (lv_at hl 4 rfl) ?_
        refine lv_iload_n hx hb dL_does_155 rfl (lv_at hl 7 rfl) ?_
        refine nr_const (v := 3) hx hb dL_does_156 rfl ?_
        refine lv_iand hx hb dL_does_157 ?_
        refine nr_top (y := nI (m2 w)) (m2_a w) ?_
        refine k_plot ⟨hx, hb, hml, hown, hts⟩ (cwV 2 hts gL_does_X5_plot rfl rfl rfl (by decide +kernel) ⟨Nat.le_of_ble_eq_true rfl, Nat.le_of_ble_eq_true rfl⟩) hK hNW hAA  hO hS hl.1 (Nat.le_of_ble_eq_true rfl) dL_does_158 ⟨Nat.zero_le _, Nat.zero_le _⟩ ?_
        refine nr_top (y := nI ((chM M (.inr (0 + 4 * kp + (m2 w), kd))) (0 + 4 * kp + (m2 w)))) (pl_a (by omega) (by first | omega | exact m2_lt _)) ?_
        refine nr_top (y := nI kd) (congrArg nI (ch_at _ _ _)) ?_
        refine lv_iload hx hb dL_does_161 (lv_at hl 1 rfl) ?_
        refine br_ine (tgt := 170) hx hb dL_does_163 (by decide) (by omega) (by omega) (fun h9 => ?_) (fun h9 => ?_)
        · exact absurd rfl h9
        · skip
          refine nr_const (v := 1) hx hb dL_does_166 rfl ?_
          refine lv_goto (tgt := 171) hx hb dL_does_167 (by decide) ?_
          exact obretz (post := fun (r : Int32) (u : Nat → Nat) => r = nI 1 ∧ (q_iv (hbd + 64) u)) (ob := fun (u : Nat → Nat) => q_OB G AA c0 (hbd + 64) u q_hT) hx hb hr hlk hS (chM M (.inr (0 + 4 * kp + (m2 w), kd))) (q_OB_le hO (by omega)) ⟨rfl, q_iv_le (ch_iv hv (oG_p hkp (m2_lt w) hkd) (by have := m2_lt w; omega) (fun c hc => by have := m2_lt w; omega)) (by omega)⟩ dL_does_171
    · skip
      refine lv_bipush (v := (-5)) hx hb dL_does_143 (by decide +kernel) ?_
      refine lv_goto (tgt := 150) hx hb dL_does_145 (by decide) ?_
      refine lv_icmp_ne (tgt := 170) hx hb dL_does_150 (by decide) (fun h10 => ?_) (fun h10 => ?_)
      · exact absurd (by first | exact ch_e (by assumption) | exact ch_n (by assumption)) h10
      · skip
        refine lv_aload_n hx hb dL_does_153 rfl (lv_at hl 5 rfl) ?_
        refine lv_iload_n hx hb dL_does_154 rfl (lv_at hl 4 rfl) ?_
        refine lv_iload_n hx hb dL_does_155 rfl (lv_at hl 7 rfl) ?_
        refine nr_const (v := 3) hx hb dL_does_156 rfl ?_
        refine lv_iand hx hb dL_does_157 ?_
        refine nr_top (y := nI (m2 w)) (m2_a w) ?_
        refine k_plot ⟨hx, hb, hml, hown, hts⟩ (cwV 2 hts gL_does_X5_plot rfl rfl rfl (by decide +kernel) ⟨Nat.le_of_ble_eq_true rfl, Nat.le_of_ble_eq_true rfl⟩) hK hNW hAA  hO hS hl.1 (Nat.le_of_ble_eq_true rfl) dL_does_158 ⟨Nat.zero_le _, Nat.zero_le _⟩ ?_
        refine nr_top (y := nI ((chM M (.inr (0 + 4 * kp + (m2 w), kd))) (0 + 4 * kp + (m2 w)))) (pl_a (by omega) (by first | omega | exact m2_lt _)) ?_
        refine nr_top (y := nI kd) (congrArg nI (ch_at _ _ _)) ?_
        refine lv_iload hx hb dL_does_161 (lv_at hl 1 rfl) ?_
        refine br_ine (tgt := 170) hx hb dL_does_163 (by decide) (by omega) (by omega) (fun h11 => ?_) (fun h11 => ?_)
        · exact absurd rfl h11
        · skip
          refine nr_const (v := 1) hx hb dL_does_166 rfl ?_
          refine lv_goto (tgt := 171) hx hb dL_does_167 (by decide) ?_
          exact obretz (post := fun (r : Int32) (u : Nat → Nat) => r = nI 1 ∧ (q_iv (hbd + 64) u)) (ob := fun (u : Nat → Nat) => q_OB G AA c0 (hbd + 64) u q_hT) hx hb hr hlk hS (chM M (.inr (0 + 4 * kp + (m2 w), kd))) (q_OB_le hO (by omega)) ⟨rfl, q_iv_le (ch_iv hv (oG_p hkp (m2_lt w) hkd) (by have := m2_lt w; omega) (fun c hc => by have := m2_lt w; omega)) (by omega)⟩ dL_does_171
  · refine nr_top (congrArg nI h1) ?_
    refine lv_tableIn (off := 72) (tgt := 116) hx hb dL_does_44 (by decide) (by decide) rfl (by decide) ?_
    refine lv_aload_n hx hb dL_does_116 rfl (lv_at hl 4 rfl) ?_
    refine lv_iload_n hx hb dL_does_117 rfl (lv_at hl 3 rfl) ?_
    refine lv_iload_n hx hb dL_does_118 rfl (lv_at hl 6 rfl) ?_
    refine nr_const (v := 3) hx hb dL_does_119 rfl ?_
    refine lv_iand hx hb dL_does_120 ?_
    refine nr_top (y := nI (m2 w)) (m2_a w) ?_
    refine k_plot ⟨hx, hb, hml, hown, hts⟩ (cwV 2 hts gL_does_X5_plot rfl rfl rfl (by decide +kernel) ⟨Nat.le_of_ble_eq_true rfl, Nat.le_of_ble_eq_true rfl⟩) hK hNW hAA  hO hS hl.1 (Nat.le_of_ble_eq_true rfl) dL_does_121 ⟨Nat.zero_le _, Nat.zero_le _⟩ ?_
    refine nr_top (y := nI (M (0 + 4 * kp + (m2 w)))) (pl_a (by omega) (by first | omega | exact m2_lt _)) ?_
    refine lv_istore (lv' := [(7, .int (nI (M (0 + 4 * kp + (m2 w))))), (6, .int (nI kd)), (5, .int (nI ko)), (4, .int (nI kc)), (3, .int (nI kp)), (0, .ref c0), (1, .int v), (2, .int w)]) hx hb dL_does_124 hl (by decide) rfl (fun ls hl => ?_)
    refine lv_aload_n hx hb dL_does_126 rfl (lv_at hl 5 rfl) ?_
    refine lv_iload_n hx hb dL_does_127 rfl (lv_at hl 4 rfl) ?_
    refine lv_iload_n hx hb dL_does_128 rfl (lv_at hl 7 rfl) ?_
    refine nr_const (v := 3) hx hb dL_does_129 rfl ?_
    refine lv_iand hx hb dL_does_130 ?_
    refine nr_top (y := nI (m2 w)) (m2_a w) ?_
    refine lv_iload hx hb dL_does_131 (lv_at hl 1 rfl) ?_
    refine k_plant ⟨hx, hb, hml, hown, hts⟩ (cwV 3 hts gL_does_X5_plant rfl rfl rfl (by decide +kernel) ⟨Nat.le_of_ble_eq_true rfl, Nat.le_of_ble_eq_true rfl⟩) hK hNW hAA (pP_y hkp (m2_lt w) hkd) (oG_p hkp (m2_lt w) hkd) hv hO hS hl.1 (Nat.le_of_ble_eq_true rfl) dL_does_133 ⟨Nat.zero_le _, Nat.zero_le _⟩ (fun H locs hO hS => ?_)
    have hO : q_OB G AA c0 hbd (chM M (.inr (0 + 4 * kp + (m2 w), kd))) q_hT _ := hO
    have hb1 := am_lt h0k hkp (m2_lt w)
    refine lv_iload hx hb dL_does_136 (lv_at hl 0 rfl) ?_
    refine lv_iload hx hb dL_does_138 (lv_at hl 1 rfl) ?_
    refine br_ine (tgt := 148) hx hb dL_does_140 (by decide) (by omega) (by omega) (fun h12 => ?_) (fun h12 => ?_)
    · skip
      refine lv_iload hx hb dL_does_148 (lv_at hl 0 rfl) ?_
      refine lv_icmp_ne (tgt := 170) hx hb dL_does_150 (by decide) (fun h13 => ?_) (fun h13 => ?_)
      · exact absurd (by first | exact ch_e (by assumption) | exact ch_n (by assumption)) h13
      · skip
        refine lv_aload_n hx hb dL_does_153 rfl (lv_at hl 5 rfl) ?_
        refine lv_iload_n hx hb dL_does_154 rfl (lv_at hl 4 rfl) ?_
        refine lv_iload_n hx hb dL_does_155 rfl (lv_at hl 7 rfl) ?_
        refine nr_const (v := 3) hx hb dL_does_156 rfl ?_
        refine lv_iand hx hb dL_does_157 ?_
        refine nr_top (y := nI (m2 w)) (m2_a w) ?_
        refine k_plot ⟨hx, hb, hml, hown, hts⟩ (cwV 2 hts gL_does_X5_plot rfl rfl rfl (by decide +kernel) ⟨Nat.le_of_ble_eq_true rfl, Nat.le_of_ble_eq_true rfl⟩) hK hNW hAA  hO hS hl.1 (Nat.le_of_ble_eq_true rfl) dL_does_158 ⟨Nat.zero_le _, Nat.zero_le _⟩ ?_
        refine nr_top (y := nI ((chM M (.inr (0 + 4 * kp + (m2 w), kd))) (0 + 4 * kp + (m2 w)))) (pl_a (by omega) (by first | omega | exact m2_lt _)) ?_
        refine nr_top (y := nI kd) (congrArg nI (ch_at _ _ _)) ?_
        refine lv_iload hx hb dL_does_161 (lv_at hl 1 rfl) ?_
        refine br_ine (tgt := 170) hx hb dL_does_163 (by decide) (by omega) (by omega) (fun h14 => ?_) (fun h14 => ?_)
        · exact absurd rfl h14
        · skip
          refine nr_const (v := 1) hx hb dL_does_166 rfl ?_
          refine lv_goto (tgt := 171) hx hb dL_does_167 (by decide) ?_
          exact obretz (post := fun (r : Int32) (u : Nat → Nat) => r = nI 1 ∧ (q_iv (hbd + 64) u)) (ob := fun (u : Nat → Nat) => q_OB G AA c0 (hbd + 64) u q_hT) hx hb hr hlk hS (chM M (.inr (0 + 4 * kp + (m2 w), kd))) (q_OB_le hO (by omega)) ⟨rfl, q_iv_le (ch_iv hv (oG_p hkp (m2_lt w) hkd) (by have := m2_lt w; omega) (fun c hc => by have := m2_lt w; omega)) (by omega)⟩ dL_does_171
    · skip
      refine lv_bipush (v := (-5)) hx hb dL_does_143 (by decide +kernel) ?_
      refine lv_goto (tgt := 150) hx hb dL_does_145 (by decide) ?_
      refine lv_icmp_ne (tgt := 170) hx hb dL_does_150 (by decide) (fun h15 => ?_) (fun h15 => ?_)
      · exact absurd (by first | exact ch_e (by assumption) | exact ch_n (by assumption)) h15
      · skip
        refine lv_aload_n hx hb dL_does_153 rfl (lv_at hl 5 rfl) ?_
        refine lv_iload_n hx hb dL_does_154 rfl (lv_at hl 4 rfl) ?_
        refine lv_iload_n hx hb dL_does_155 rfl (lv_at hl 7 rfl) ?_
        refine nr_const (v := 3) hx hb dL_does_156 rfl ?_
        refine lv_iand hx hb dL_does_157 ?_
        refine nr_top (y := nI (m2 w)) (m2_a w) ?_
        refine k_plot ⟨hx, hb, hml, hown, hts⟩ (cwV 2 hts gL_does_X5_plot rfl rfl rfl (by decide +kernel) ⟨Nat.le_of_ble_eq_true rfl, Nat.le_of_ble_eq_true rfl⟩) hK hNW hAA  hO hS hl.1 (Nat.le_of_ble_eq_true rfl) dL_does_158 ⟨Nat.zero_le _, Nat.zero_le _⟩ ?_
        refine nr_top (y := nI ((chM M (.inr (0 + 4 * kp + (m2 w), kd))) (0 + 4 * kp + (m2 w)))) (pl_a (by omega) (by first | omega | exact m2_lt _)) ?_
        refine nr_top (y := nI kd) (congrArg nI (ch_at _ _ _)) ?_
        refine lv_iload hx hb dL_does_161 (lv_at hl 1 rfl) ?_
        refine br_ine (tgt := 170) hx hb dL_does_163 (by decide) (by omega) (by omega) (fun h16 => ?_) (fun h16 => ?_)
        · exact absurd rfl h16
        · skip
          refine nr_const (v := 1) hx hb dL_does_166 rfl ?_
          refine lv_goto (tgt := 171) hx hb dL_does_167 (by decide) ?_
          exact obretz (post := fun (r : Int32) (u : Nat → Nat) => r = nI 1 ∧ (q_iv (hbd + 64) u)) (ob := fun (u : Nat → Nat) => q_OB G AA c0 (hbd + 64) u q_hT) hx hb hr hlk hS (chM M (.inr (0 + 4 * kp + (m2 w), kd))) (q_OB_le hO (by omega)) ⟨rfl, q_iv_le (ch_iv hv (oG_p hkp (m2_lt w) hkd) (by have := m2_lt w; omega) (fun c hc => by have := m2_lt w; omega)) (by omega)⟩ dL_does_171
  · refine nr_top (congrArg nI h1) ?_
    refine lv_tableIn (off := 72) (tgt := 116) hx hb dL_does_44 (by decide) (by decide) rfl (by decide) ?_
    refine lv_aload_n hx hb dL_does_116 rfl (lv_at hl 4 rfl) ?_
    refine lv_iload_n hx hb dL_does_117 rfl (lv_at hl 3 rfl) ?_
    refine lv_iload_n hx hb dL_does_118 rfl (lv_at hl 6 rfl) ?_
    refine nr_const (v := 3) hx hb dL_does_119 rfl ?_
    refine lv_iand hx hb dL_does_120 ?_
    refine nr_top (y := nI (m2 w)) (m2_a w) ?_
    refine k_plot ⟨hx, hb, hml, hown, hts⟩ (cwV 2 hts gL_does_X5_plot rfl rfl rfl (by decide +kernel) ⟨Nat.le_of_ble_eq_true rfl, Nat.le_of_ble_eq_true rfl⟩) hK hNW hAA  hO hS hl.1 (Nat.le_of_ble_eq_true rfl) dL_does_121 ⟨Nat.zero_le _, Nat.zero_le _⟩ ?_
    refine nr_top (y := nI (M (0 + 4 * kp + (m2 w)))) (pl_a (by omega) (by first | omega | exact m2_lt _)) ?_
    refine lv_istore (lv' := [(7, .int (nI (M (0 + 4 * kp + (m2 w))))), (6, .int (nI kd)), (5, .int (nI ko)), (4, .int (nI kc)), (3, .int (nI kp)), (0, .ref c0), (1, .int v), (2, .int w)]) hx hb dL_does_124 hl (by decide) rfl (fun ls hl => ?_)
    refine lv_aload_n hx hb dL_does_126 rfl (lv_at hl 5 rfl) ?_
    refine lv_iload_n hx hb dL_does_127 rfl (lv_at hl 4 rfl) ?_
    refine lv_iload_n hx hb dL_does_128 rfl (lv_at hl 7 rfl) ?_
    refine nr_const (v := 3) hx hb dL_does_129 rfl ?_
    refine lv_iand hx hb dL_does_130 ?_
    refine nr_top (y := nI (m2 w)) (m2_a w) ?_
    refine lv_iload hx hb dL_does_131 (lv_at hl 1 rfl) ?_
    refine k_plant ⟨hx, hb, hml, hown, hts⟩ (cwV 3 hts gL_does_X5_plant rfl rfl rfl (by decide +kernel) ⟨Nat.le_of_ble_eq_true rfl, Nat.le_of_ble_eq_true rfl⟩) hK hNW hAA (pP_y hkp (m2_lt w) hkd) (oG_p hkp (m2_lt w) hkd) hv hO hS hl.1 (Nat.le_of_ble_eq_true rfl) dL_does_133 ⟨Nat.zero_le _, Nat.zero_le _⟩ (fun H locs hO hS => ?_)
    have hO : q_OB G AA c0 hbd (chM M (.inr (0 + 4 * kp + (m2 w), kd))) q_hT _ := hO
    have hb1 := am_lt h0k hkp (m2_lt w)
    refine lv_iload hx hb dL_does_136 (lv_at hl 0 rfl) ?_
    refine lv_iload hx hb dL_does_138 (lv_at hl 1 rfl) ?_
    refine br_ine (tgt := 148) hx hb dL_does_140 (by decide) (by omega) (by omega) (fun h17 => ?_) (fun h17 => ?_)
    · skip
      refine lv_iload hx hb dL_does_148 (lv_at hl 0 rfl) ?_
      refine lv_icmp_ne (tgt := 170) hx hb dL_does_150 (by decide) (fun h18 => ?_) (fun h18 => ?_)
      · exact absurd (by first | exact ch_e (by assumption) | exact ch_n (by assumption)) h18
      · skip
        refine lv_aload_n hx hb dL_does_153 rfl (lv_at hl 5 rfl) ?_
        refine lv_iload_n hx hb dL_does_154 rfl (lv_at hl 4 rfl) ?_
        refine lv_iload_n hx hb dL_does_155 rfl (lv_at hl 7 rfl) ?_
        refine nr_const (v := 3) hx hb dL_does_156 rfl ?_
        refine lv_iand hx hb dL_does_157 ?_
        refine nr_top (y := nI (m2 w)) (m2_a w) ?_
        refine k_plot ⟨hx, hb, hml, hown, hts⟩ (cwV 2 hts gL_does_X5_plot rfl rfl rfl (by decide +kernel) ⟨Nat.le_of_ble_eq_true rfl, Nat.le_of_ble_eq_true rfl⟩) hK hNW hAA  hO hS hl.1 (Nat.le_of_ble_eq_true rfl) dL_does_158 ⟨Nat.zero_le _, Nat.zero_le _⟩ ?_
        refine nr_top (y := nI ((chM M (.inr (0 + 4 * kp + (m2 w), kd))) (0 + 4 * kp + (m2 w)))) (pl_a (by omega) (by first | omega | exact m2_lt _)) ?_
        refine nr_top (y := nI kd) (congrArg nI (ch_at _ _ _)) ?_
        refine lv_iload hx hb dL_does_161 (lv_at hl 1 rfl) ?_
        refine br_ine (tgt := 170) hx hb dL_does_163 (by decide) (by omega) (by omega) (fun h19 => ?_) (fun h19 => ?_)
        · exact absurd rfl h19
        · skip
          refine nr_const (v := 1) hx hb dL_does_166 rfl ?_
          refine lv_goto (tgt := 171) hx hb dL_does_167 (by decide) ?_
          exact obretz (post := fun (r : Int32) (u : Nat → Nat) => r = nI 1 ∧ (q_iv (hbd + 64) u)) (ob := fun (u : Nat → Nat) => q_OB G AA c0 (hbd + 64) u q_hT) hx hb hr hlk hS (chM M (.inr (0 + 4 * kp + (m2 w), kd))) (q_OB_le hO (by omega)) ⟨rfl, q_iv_le (ch_iv hv (oG_p hkp (m2_lt w) hkd) (by have := m2_lt w; omega) (fun c hc => by have := m2_lt w; omega)) (by omega)⟩ dL_does_171
    · skip
      refine lv_bipush (v := (-5)) hx hb dL_does_143 (by decide +kernel) ?_
      refine lv_goto (tgt := 150) hx hb dL_does_145 (by decide) ?_
      refine lv_icmp_ne (tgt := 170) hx hb dL_does_150 (by decide) (fun h20 => ?_) (fun h20 => ?_)
      · exact absurd (by first | exact ch_e (by assumption) | exact ch_n (by assumption)) h20
      · skip
        refine lv_aload_n hx hb dL_does_153 rfl (lv_at hl 5 rfl) ?_
        refine lv_iload_n hx hb dL_does_154 rfl (lv_at hl 4 rfl) ?_
        refine lv_iload_n hx hb dL_does_155 rfl (lv_at hl 7 rfl) ?_
        refine nr_const (v := 3) hx hb dL_does_156 rfl ?_
        refine lv_iand hx hb dL_does_157 ?_
        refine nr_top (y := nI (m2 w)) (m2_a w) ?_
        refine k_plot ⟨hx, hb, hml, hown, hts⟩ (cwV 2 hts gL_does_X5_plot rfl rfl rfl (by decide +kernel) ⟨Nat.le_of_ble_eq_true rfl, Nat.le_of_ble_eq_true rfl⟩) hK hNW hAA  hO hS hl.1 (Nat.le_of_ble_eq_true rfl) dL_does_158 ⟨Nat.zero_le _, Nat.zero_le _⟩ ?_
        refine nr_top (y := nI ((chM M (.inr (0 + 4 * kp + (m2 w), kd))) (0 + 4 * kp + (m2 w)))) (pl_a (by omega) (by first | omega | exact m2_lt _)) ?_
        refine nr_top (y := nI kd) (congrArg nI (ch_at _ _ _)) ?_
        refine lv_iload hx hb dL_does_161 (lv_at hl 1 rfl) ?_
        refine br_ine (tgt := 170) hx hb dL_does_163 (by decide) (by omega) (by omega) (fun h21 => ?_) (fun h21 => ?_)
        · exact absurd rfl h21
        · skip
          refine nr_const (v := 1) hx hb dL_does_166 rfl ?_
          refine lv_goto (tgt := 171) hx hb dL_does_167 (by decide) ?_
          exact obretz (post := fun (r : Int32) (u : Nat → Nat) => r = nI 1 ∧ (q_iv (hbd + 64) u)) (ob := fun (u : Nat → Nat) => q_OB G AA c0 (hbd + 64) u q_hT) hx hb hr hlk hS (chM M (.inr (0 + 4 * kp + (m2 w), kd))) (q_OB_le hO (by omega)) ⟨rfl, q_iv_le (ch_iv hv (oG_p hkp (m2_lt w) hkd) (by have := m2_lt w; omega) (fun c hc => by have := m2_lt w; omega)) (by omega)⟩ dL_does_171
  · refine nr_top (congrArg nI h1) ?_
    refine lv_tableIn (off := 128) (tgt := 172) hx hb dL_does_44 (by decide) (by decide) rfl (by decide) ?_
    refine lv_aload_n hx hb dL_does_172 rfl (lv_at hl 4 rfl) ?_
    refine lv_iload hx hb dL_does_173 (lv_at hl 2 rfl) ?_
    refine lv_iload_n hx hb dL_does_175 rfl (lv_at hl 5 rfl) ?_
    refine nr_bi (v := 9) hx hb dL_does_176 (by decide +kernel) ?_
    refine lv_ishr hx hb dL_does_178 ?_
    refine nr_const (v := 3) hx hb dL_does_179 rfl ?_
    refine lv_iand hx hb dL_does_180 ?_
    refine nr_top (y := nI (m2 (v >>> ((nI 9) &&& 31)))) (m2_a _) ?_
    refine k_cousin ⟨hx, hb, hml, hown, hts⟩ (cwV 2 hts gL_does_X5_cousin rfl rfl rfl (by decide +kernel) ⟨Nat.le_of_ble_eq_true rfl, Nat.le_of_ble_eq_true rfl⟩) hK hNW hAA  hO hS hl.1 (Nat.le_of_ble_eq_true rfl) dL_does_181 ⟨Nat.zero_le _, Nat.zero_le _⟩ (fun H locs hO hS => ?_)
    have hO : q_OB G AA c0 hbd M q_hT _ := hO
    refine nr_top (y := nI (M (120 + 4 * kc + (m2 (v >>> ((nI 9) &&& 31)))))) (cz_a (by omega) (by first | omega | exact m2_lt _)) ?_
    refine lv_istore (lv' := [(8, .int (nI (M (120 + 4 * kc + (m2 (v >>> ((nI 9) &&& 31))))))), (6, .int (nI kd)), (5, .int (nI ko)), (4, .int (nI kc)), (3, .int (nI kp)), (0, .ref c0), (1, .int v), (2, .int w)]) hx hb dL_does_184 hl (by decide) rfl (fun ls hl => ?_)
    refine lv_aload_n hx hb dL_does_186 rfl (lv_at hl 5 rfl) ?_
    refine lv_iload hx hb dL_does_187 (lv_at hl 3 rfl) ?_
    refine lv_iload_n hx hb dL_does_189 rfl (lv_at hl 6 rfl) ?_
    refine nr_bi (v := 9) hx hb dL_does_190 (by decide +kernel) ?_
    refine lv_ishr hx hb dL_does_192 ?_
    refine nr_const (v := 3) hx hb dL_does_193 rfl ?_
    refine lv_iand hx hb dL_does_194 ?_
    refine nr_top (y := nI (m2 (v >>> ((nI 9) &&& 31)))) (m2_a _) ?_
    refine lv_iload hx hb dL_does_195 (lv_at hl 1 rfl) ?_
    refine k_weigh ⟨hx, hb, hml, hown, hts⟩ (cwV 3 hts gL_does_X5_weigh rfl rfl rfl (by decide +kernel) ⟨Nat.le_of_ble_eq_true rfl, Nat.le_of_ble_eq_true rfl⟩) hK hNW hAA (pW_y hkc (m2_lt _) hkd) (oG_w hkc (m2_lt _) hkd) hv hO hS hl.1 (Nat.le_of_ble_eq_true rfl) dL_does_197 ⟨Nat.zero_le _, Nat.zero_le _⟩ (fun H locs hO hS => ?_)
    have hO : q_OB G AA c0 hbd (chM M (.inr (120 + 4 * kc + (m2 (v >>> ((nI 9) &&& 31))), kd))) q_hT _ := hO
    have hb1 := we_lt h0k hkc (m2_lt (v >>> ((nI 9) &&& 31)))
    refine lv_iload hx hb dL_does_200 (lv_at hl 0 rfl) ?_
    refine lv_iload hx hb dL_does_202 (lv_at hl 1 rfl) ?_
    refine br_ine (tgt := 212) hx hb dL_does_204 (by decide) (by omega) (by omega) (fun h22 => ?_) (fun h22 => ?_)
    · skip
      refine lv_iload hx hb dL_does_212 (lv_at hl 0 rfl) ?_
      refine lv_icmp_ne (tgt := 238) hx hb dL_does_214 (by decide) (fun h23 => ?_) (fun h23 => ?_)
      · exact absurd (by first | exact ch_e (by assumption) | exact ch_n (by assumption)) h23
      · skip
        refine lv_aload_n hx hb dL_does_217 rfl (lv_at hl 5 rfl) ?_
        refine lv_iload hx hb dL_does_218 (lv_at hl 3 rfl) ?_
        refine lv_iload_n hx hb dL_does_220 rfl (lv_at hl 6 rfl) ?_
        refine nr_bi (v := 9) hx hb dL_does_221 (by decide +kernel) ?_
        refine lv_ishr hx hb dL_does_223 ?_
        refine nr_const (v := 3) hx hb dL_does_224 rfl ?_
        refine lv_iand hx hb dL_does_225 ?_
        refine nr_top (y := nI (m2 (v >>> ((nI 9) &&& 31)))) (m2_a _) ?_
        refine k_cousin ⟨hx, hb, hml, hown, hts⟩ (cwV 2 hts gL_does_X5_cousin rfl rfl rfl (by decide +kernel) ⟨Nat.le_of_ble_eq_true rfl, Nat.le_of_ble_eq_true rfl⟩) hK hNW hAA  hO hS hl.1 (Nat.le_of_ble_eq_true rfl) dL_does_226 ⟨Nat.zero_le _, Nat.zero_le _⟩ (fun H locs hO hS => ?_)
        have hO : q_OB G AA c0 hbd (chM M (.inr (120 + 4 * kc + (m2 (v >>> ((nI 9) &&& 31))), kd))) q_hT _ := hO
        refine nr_top (y := nI ((chM M (.inr (120 + 4 * kc + (m2 (v >>> ((nI 9) &&& 31))), kd))) (120 + 4 * kc + (m2 (v >>> ((nI 9) &&& 31)))))) (cz_a (by omega) (by first | omega | exact m2_lt _)) ?_
        refine nr_top (y := nI kd) (congrArg nI (ch_at _ _ _)) ?_
        refine lv_iload hx hb dL_does_229 (lv_at hl 1 rfl) ?_
        refine br_ine (tgt := 238) hx hb dL_does_231 (by decide) (by omega) (by omega) (fun h24 => ?_) (fun h24 => ?_)
        · exact absurd rfl h24
        · skip
          refine nr_const (v := 1) hx hb dL_does_234 rfl ?_
          refine lv_goto (tgt := 239) hx hb dL_does_235 (by decide) ?_
          exact obretz (post := fun (r : Int32) (u : Nat → Nat) => r = nI 1 ∧ (q_iv (hbd + 64) u)) (ob := fun (u : Nat → Nat) => q_OB G AA c0 (hbd + 64) u q_hT) hx hb hr hlk hS (chM M (.inr (120 + 4 * kc + (m2 (v >>> ((nI 9) &&& 31))), kd))) (q_OB_le hO (by omega)) ⟨rfl, q_iv_le (ch_iv hv (oG_w hkc (m2_lt _) hkd) (by have := m2_lt (v >>> ((nI 9) &&& 31)); omega) (fun c hc => by have := m2_lt (v >>> ((nI 9) &&& 31)); omega)) (by omega)⟩ dL_does_239
    · skip
      refine lv_bipush (v := (-5)) hx hb dL_does_207 (by decide +kernel) ?_
      refine lv_goto (tgt := 214) hx hb dL_does_209 (by decide) ?_
      refine lv_icmp_ne (tgt := 238) hx hb dL_does_214 (by decide) (fun h25 => ?_) (fun h25 => ?_)
      · exact absurd (by first | exact ch_e (by assumption) | exact ch_n (by assumption)) h25
      · skip
        refine lv_aload_n hx hb dL_does_217 rfl (lv_at hl 5 rfl) ?_
        refine lv_iload hx hb dL_does_218 (lv_at hl 3 rfl) ?_
        refine lv_iload_n hx hb dL_does_220 rfl (lv_at hl 6 rfl) ?_
        refine nr_bi (v := 9) hx hb dL_does_221 (by decide +kernel) ?_
        refine lv_ishr hx hb dL_does_223 ?_
        refine nr_const (v := 3) hx hb dL_does_224 rfl ?_
        refine lv_iand hx hb dL_does_225 ?_
        refine nr_top (y := nI (m2 (v >>> ((nI 9) &&& 31)))) (m2_a _) ?_
        refine k_cousin ⟨hx, hb, hml, hown, hts⟩ (cwV 2 hts gL_does_X5_cousin rfl rfl rfl (by decide +kernel) ⟨Nat.le_of_ble_eq_true rfl, Nat.le_of_ble_eq_true rfl⟩) hK hNW hAA  hO hS hl.1 (Nat.le_of_ble_eq_true rfl) dL_does_226 ⟨Nat.zero_le _, Nat.zero_le _⟩ (fun H locs hO hS => ?_)
        have hO : q_OB G AA c0 hbd (chM M (.inr (120 + 4 * kc + (m2 (v >>> ((nI 9) &&& 31))), kd))) q_hT _ := hO
        refine nr_top (y := nI ((chM M (.inr (120 + 4 * kc + (m2 (v >>> ((nI 9) &&& 31))), kd))) (120 + 4 * kc + (m2 (v >>> ((nI 9) &&& 31)))))) (cz_a (by omega) (by first | omega | exact m2_lt _)) ?_
        refine nr_top (y := nI kd) (congrArg nI (ch_at _ _ _)) ?_
        refine lv_iload hx hb dL_does_229 (lv_at hl 1 rfl) ?_
        refine br_ine (tgt := 238) hx hb dL_does_231 (by decide) (by omega) (by omega) (fun h26 => ?_) (fun h26 => ?_)
        · exact absurd rfl h26
        · skip
          refine nr_const (v := 1) hx hb dL_does_234 rfl ?_
          refine lv_goto (tgt := 239) hx hb dL_does_235 (by decide) ?_
          exact obretz (post := fun (r : Int32) (u : Nat → Nat) => r = nI 1 ∧ (q_iv (hbd + 64) u)) (ob := fun (u : Nat → Nat) => q_OB G AA c0 (hbd + 64) u q_hT) hx hb hr hlk hS (chM M (.inr (120 + 4 * kc + (m2 (v >>> ((nI 9) &&& 31))), kd))) (q_OB_le hO (by omega)) ⟨rfl, q_iv_le (ch_iv hv (oG_w hkc (m2_lt _) hkd) (by have := m2_lt (v >>> ((nI 9) &&& 31)); omega) (fun c hc => by have := m2_lt (v >>> ((nI 9) &&& 31)); omega)) (by omega)⟩ dL_does_239
  · refine nr_top (congrArg nI h1) ?_
    refine lv_tableIn (off := 128) (tgt := 172) hx hb dL_does_44 (by decide) (by decide) rfl (by decide) ?_
    refine lv_aload_n hx hb dL_does_172 rfl (lv_at hl 4 rfl) ?_
    refine lv_iload hx hb dL_does_173 (lv_at hl 2 rfl) ?_
    refine lv_iload_n hx hb dL_does_175 rfl (lv_at hl 5 rfl) ?_
    refine nr_bi (v := 9) hx hb dL_does_176 (by decide +kernel) ?_
    refine lv_ishr hx hb dL_does_178 ?_
    refine nr_const (v := 3) hx hb dL_does_179 rfl ?_
    refine lv_iand hx hb dL_does_180 ?_
    refine nr_top (y := nI (m2 (v >>> ((nI 9) &&& 31)))) (m2_a _) ?_
    refine k_cousin ⟨hx, hb, hml, hown, hts⟩ (cwV 2 hts gL_does_X5_cousin rfl rfl rfl (by decide +kernel) ⟨Nat.le_of_ble_eq_true rfl, Nat.le_of_ble_eq_true rfl⟩) hK hNW hAA  hO hS hl.1 (Nat.le_of_ble_eq_true rfl) dL_does_181 ⟨Nat.zero_le _, Nat.zero_le _⟩ (fun H locs hO hS => ?_)
    have hO : q_OB G AA c0 hbd M q_hT _ := hO
    refine nr_top (y := nI (M (120 + 4 * kc + (m2 (v >>> ((nI 9) &&& 31)))))) (cz_a (by omega) (by first | omega | exact m2_lt _)) ?_
    refine lv_istore (lv' := [(8, .int (nI (M (120 + 4 * kc + (m2 (v >>> ((nI 9) &&& 31))))))), (6, .int (nI kd)), (5, .int (nI ko)), (4, .int (nI kc)), (3, .int (nI kp)), (0, .ref c0), (1, .int v), (2, .int w)]) hx hb dL_does_184 hl (by decide) rfl (fun ls hl => ?_)
    refine lv_aload_n hx hb dL_does_186 rfl (lv_at hl 5 rfl) ?_
    refine lv_iload hx hb dL_does_187 (lv_at hl 3 rfl) ?_
    refine lv_iload_n hx hb dL_does_189 rfl (lv_at hl 6 rfl) ?_
    refine nr_bi (v := 9) hx hb dL_does_190 (by decide +kernel) ?_
    refine lv_ishr hx hb dL_does_192 ?_
    refine nr_const (v := 3) hx hb dL_does_193 rfl ?_
    refine lv_iand hx hb dL_does_194 ?_
    refine nr_top (y := nI (m2 (v >>> ((nI 9) &&& 31)))) (m2_a _) ?_
    refine lv_iload hx hb dL_does_195 (lv_at hl 1 rfl) ?_
    refine k_weigh ⟨hx, hb, hml, hown, hts⟩ (cwV 3 hts gL_does_X5_weigh rfl rfl rfl (by decide +kernel) ⟨Nat.le_of_ble_eq_true rfl, Nat.le_of_ble_eq_true rfl⟩) hK hNW hAA (pW_y hkc (m2_lt _) hkd) (oG_w hkc (m2_lt _) hkd) hv hO hS hl.1 (Nat.le_of_ble_eq_true rfl) dL_does_197 ⟨Nat.zero_le _, Nat.zero_le _⟩ (fun H locs hO hS => ?_)
    have hO : q_OB G AA c0 hbd (chM M (.inr (120 + 4 * kc + (m2 (v >>> ((nI 9) &&& 31))), kd))) q_hT _ := hO
    have hb1 := we_lt h0k hkc (m2_lt (v >>> ((nI 9) &&& 31)))
    refine lv_iload hx hb dL_does_200 (lv_at hl 0 rfl) ?_
    refine lv_iload hx hb dL_does_202 (lv_at hl 1 rfl) ?_
    refine br_ine (tgt := 212) hx hb dL_does_204 (by decide) (by omega) (by omega) (fun h27 => ?_) (fun h27 => ?_)
    · skip
      refine lv_iload hx hb dL_does_212 (lv_at hl 0 rfl) ?_
      refine lv_icmp_ne (tgt := 238) hx hb dL_does_214 (by decide) (fun h28 => ?_) (fun h28 => ?_)
      · exact absurd (by first | exact ch_e (by assumption) | exact ch_n (by assumption)) h28
      · skip
        refine lv_aload_n hx hb dL_does_217 rfl (lv_at hl 5 rfl) ?_
        refine lv_iload hx hb dL_does_218 (lv_at hl 3 rfl) ?_
        refine lv_iload_n hx hb dL_does_220 rfl (lv_at hl 6 rfl) ?_
        refine nr_bi (v := 9) hx hb dL_does_221 (by decide +kernel) ?_
        refine lv_ishr hx hb dL_does_223 ?_
        refine nr_const (v := 3) hx hb dL_does_224 rfl ?_
        refine lv_iand hx hb dL_does_225 ?_
        refine nr_top (y := nI (m2 (v >>> ((nI 9) &&& 31)))) (m2_a _) ?_
        refine k_cousin ⟨hx, hb, hml, hown, hts⟩ (cwV 2 hts gL_does_X5_cousin rfl rfl rfl (by decide +kernel) ⟨Nat.le_of_ble_eq_true rfl, Nat.le_of_ble_eq_true rfl⟩) hK hNW hAA  hO hS hl.1 (Nat.le_of_ble_eq_true rfl) dL_does_226 ⟨Nat.zero_le _, Nat.zero_le _⟩ (fun H locs hO hS => ?_)
        have hO : q_OB G AA c0 hbd (chM M (.inr (120 + 4 * kc + (m2 (v >>> ((nI 9) &&& 31))), kd))) q_hT _ := hO
        refine nr_top (y := nI ((chM M (.inr (120 + 4 * kc + (m2 (v >>> ((nI 9) &&& 31))), kd))) (120 + 4 * kc + (m2 (v >>> ((nI 9) &&& 31)))))) (cz_a (by omega) (by first | omega | exact m2_lt _)) ?_
        refine nr_top (y := nI kd) (congrArg nI (ch_at _ _ _)) ?_
        refine lv_iload hx hb dL_does_229 (lv_at hl 1 rfl) ?_
        refine br_ine (tgt := 238) hx hb dL_does_231 (by decide) (by omega) (by omega) (fun h29 => ?_) (fun h29 => ?_)
        · exact absurd rfl h29
        · skip
          refine nr_const (v := 1) hx hb dL_does_234 rfl ?_
          refine lv_goto (tgt := 239) hx hb dL_does_235 (by decide) ?_
          exact obretz (post := fun (r : Int32) (u : Nat → Nat) => r = nI 1 ∧ (q_iv (hbd + 64) u)) (ob := fun (u : Nat → Nat) => q_OB G AA c0 (hbd + 64) u q_hT) hx hb hr hlk hS (chM M (.inr (120 + 4 * kc + (m2 (v >>> ((nI 9) &&& 31))), kd))) (q_OB_le hO (by omega)) ⟨rfl, q_iv_le (ch_iv hv (oG_w hkc (m2_lt _) hkd) (by have := m2_lt (v >>> ((nI 9) &&& 31)); omega) (fun c hc => by have := m2_lt (v >>> ((nI 9) &&& 31)); omega)) (by omega)⟩ dL_does_239
    · skip
      refine lv_bipush (v := (-5)) hx hb dL_does_207 (by decide +kernel) ?_
      refine lv_goto (tgt := 214) hx hb dL_does_209 (by decide) ?_
      refine lv_icmp_ne (tgt := 238) hx hb dL_does_214 (by decide) (fun h30 => ?_) (fun h30 => ?_)
      · exact absurd (by first | exact ch_e (by assumption) | exact ch_n (by assumption)) h30
      · skip
        refine lv_aload_n hx hb dL_does_217 rfl (lv_at hl 5 rfl) ?_
        refine lv_iload hx hb dL_does_218 (lv_at hl 3 rfl) ?_
        refine lv_iload_n hx hb dL_does_220 rfl (lv_at hl 6 rfl) ?_
        refine nr_bi (v := 9) hx hb dL_does_221 (by decide +kernel) ?_
        refine lv_ishr hx hb dL_does_223 ?_
        refine nr_const (v := 3) hx hb dL_does_224 rfl ?_
        refine lv_iand hx hb dL_does_225 ?_
        refine nr_top (y := nI (m2 (v >>> ((nI 9) &&& 31)))) (m2_a _) ?_
        refine k_cousin ⟨hx, hb, hml, hown, hts⟩ (cwV 2 hts gL_does_X5_cousin rfl rfl rfl (by decide +kernel) ⟨Nat.le_of_ble_eq_true rfl, Nat.le_of_ble_eq_true rfl⟩) hK hNW hAA  hO hS hl.1 (Nat.le_of_ble_eq_true rfl) dL_does_226 ⟨Nat.zero_le _, Nat.zero_le _⟩ (fun H locs hO hS => ?_)
        have hO : q_OB G AA c0 hbd (chM M (.inr (120 + 4 * kc + (m2 (v >>> ((nI 9) &&& 31))), kd))) q_hT _ := hO
        refine nr_top (y := nI ((chM M (.inr (120 + 4 * kc + (m2 (v >>> ((nI 9) &&& 31))), kd))) (120 + 4 * kc + (m2 (v >>> ((nI 9) &&& 31)))))) (cz_a (by omega) (by first | omega | exact m2_lt _)) ?_
        refine nr_top (y := nI kd) (congrArg nI (ch_at _ _ _)) ?_
        refine lv_iload hx hb dL_does_229 (lv_at hl 1 rfl) ?_
        refine br_ine (tgt := 238) hx hb dL_does_231 (by decide) (by omega) (by omega) (fun h31 => ?_) (fun h31 => ?_)
        · exact absurd rfl h31
        · skip
          refine nr_const (v := 1) hx hb dL_does_234 rfl ?_
          refine lv_goto (tgt := 239) hx hb dL_does_235 (by decide) ?_
          exact obretz (post := fun (r : Int32) (u : Nat → Nat) => r = nI 1 ∧ (q_iv (hbd + 64) u)) (ob := fun (u : Nat → Nat) => q_OB G AA c0 (hbd + 64) u q_hT) hx hb hr hlk hS (chM M (.inr (120 + 4 * kc + (m2 (v >>> ((nI 9) &&& 31))), kd))) (q_OB_le hO (by omega)) ⟨rfl, q_iv_le (ch_iv hv (oG_w hkc (m2_lt _) hkd) (by have := m2_lt (v >>> ((nI 9) &&& 31)); omega) (fun c hc => by have := m2_lt (v >>> ((nI 9) &&& 31)); omega)) (by omega)⟩ dL_does_239
  · refine nr_top (congrArg nI h1) ?_
    refine lv_tableIn (off := 128) (tgt := 172) hx hb dL_does_44 (by decide) (by decide) rfl (by decide) ?_
    refine lv_aload_n hx hb dL_does_172 rfl (lv_at hl 4 rfl) ?_
    refine lv_iload hx hb dL_does_173 (lv_at hl 2 rfl) ?_
    refine lv_iload_n hx hb dL_does_175 rfl (lv_at hl 5 rfl) ?_
    refine nr_bi (v := 9) hx hb dL_does_176 (by decide +kernel) ?_
    refine lv_ishr hx hb dL_does_178 ?_
    refine nr_const (v := 3) hx hb dL_does_179 rfl ?_
    refine lv_iand hx hb dL_does_180 ?_
    refine nr_top (y := nI (m2 (v >>> ((nI 9) &&& 31)))) (m2_a _) ?_
    refine k_cousin ⟨hx, hb, hml, hown, hts⟩ (cwV 2 hts gL_does_X5_cousin rfl rfl rfl (by decide +kernel) ⟨Nat.le_of_ble_eq_true rfl, Nat.le_of_ble_eq_true rfl⟩) hK hNW hAA  hO hS hl.1 (Nat.le_of_ble_eq_true rfl) dL_does_181 ⟨Nat.zero_le _, Nat.zero_le _⟩ (fun H locs hO hS => ?_)
    have hO : q_OB G AA c0 hbd M q_hT _ := hO
    refine nr_top (y := nI (M (120 + 4 * kc + (m2 (v >>> ((nI 9) &&& 31)))))) (cz_a (by omega) (by first | omega | exact m2_lt _)) ?_
    refine lv_istore (lv' := [(8, .int (nI (M (120 + 4 * kc + (m2 (v >>> ((nI 9) &&& 31))))))), (6, .int (nI kd)), (5, .int (nI ko)), (4, .int (nI kc)), (3, .int (nI kp)), (0, .ref c0), (1, .int v), (2, .int w)]) hx hb dL_does_184 hl (by decide) rfl (fun ls hl => ?_)
    refine lv_aload_n hx hb dL_does_186 rfl (lv_at hl 5 rfl) ?_
    refine lv_iload hx hb dL_does_187 (lv_at hl 3 rfl) ?_
    refine lv_iload_n hx hb dL_does_189 rfl (lv_at hl 6 rfl) ?_
    refine nr_bi (v := 9) hx hb dL_does_190 (by decide +kernel) ?_
    refine lv_ishr hx hb dL_does_192 ?_
    refine nr_const (v := 3) hx hb dL_does_193 rfl ?_
    refine lv_iand hx hb dL_does_194 ?_
    refine nr_top (y := nI (m2 (v >>> ((nI 9) &&& 31)))) (m2_a _) ?_
    refine lv_iload hx hb dL_does_195 (lv_at hl 1 rfl) ?_
    refine k_weigh ⟨hx, hb, hml, hown, hts⟩ (cwV 3 hts gL_does_X5_weigh rfl rfl rfl (by decide +kernel) ⟨Nat.le_of_ble_eq_true rfl, Nat.le_of_ble_eq_true rfl⟩) hK hNW hAA (pW_y hkc (m2_lt _) hkd) (oG_w hkc (m2_lt _) hkd) hv hO hS hl.1 (Nat.le_of_ble_eq_true rfl) dL_does_197 ⟨Nat.zero_le _, Nat.zero_le _⟩ (fun H locs hO hS => ?_)
    have hO : q_OB G AA c0 hbd (chM M (.inr (120 + 4 * kc + (m2 (v >>> ((nI 9) &&& 31))), kd))) q_hT _ := hO
    have hb1 := we_lt h0k hkc (m2_lt (v >>> ((nI 9) &&& 31)))
    refine lv_iload hx hb dL_does_200 (lv_at hl 0 rfl) ?_
    refine lv_iload hx hb dL_does_202 (lv_at hl 1 rfl) ?_
    refine br_ine (tgt := 212) hx hb dL_does_204 (by decide) (by omega) (by omega) (fun h32 => ?_) (fun h32 => ?_)
    · skip
      refine lv_iload hx hb dL_does_212 (lv_at hl 0 rfl) ?_
      refine lv_icmp_ne (tgt := 238) hx hb dL_does_214 (by decide) (fun h33 => ?_) (fun h33 => ?_)
      · exact absurd (by first | exact ch_e (by assumption) | exact ch_n (by assumption)) h33
      · skip
        refine lv_aload_n hx hb dL_does_217 rfl (lv_at hl 5 rfl) ?_
        refine lv_iload hx hb dL_does_218 (lv_at hl 3 rfl) ?_
        refine lv_iload_n hx hb dL_does_220 rfl (lv_at hl 6 rfl) ?_
        refine nr_bi (v := 9) hx hb dL_does_221 (by decide +kernel) ?_
        refine lv_ishr hx hb dL_does_223 ?_
        refine nr_const (v := 3) hx hb dL_does_224 rfl ?_
        refine lv_iand hx hb dL_does_225 ?_
        refine nr_top (y := nI (m2 (v >>> ((nI 9) &&& 31)))) (m2_a _) ?_
        refine k_cousin ⟨hx, hb, hml, hown, hts⟩ (cwV 2 hts gL_does_X5_cousin rfl rfl rfl (by decide +kernel) ⟨Nat.le_of_ble_eq_true rfl, Nat.le_of_ble_eq_true rfl⟩) hK hNW hAA  hO hS hl.1 (Nat.le_of_ble_eq_true rfl) dL_does_226 ⟨Nat.zero_le _, Nat.zero_le _⟩ (fun H locs hO hS => ?_)
        have hO : q_OB G AA c0 hbd (chM M (.inr (120 + 4 * kc + (m2 (v >>> ((nI 9) &&& 31))), kd))) q_hT _ := hO
        refine nr_top (y := nI ((chM M (.inr (120 + 4 * kc + (m2 (v >>> ((nI 9) &&& 31))), kd))) (120 + 4 * kc + (m2 (v >>> ((nI 9) &&& 31)))))) (cz_a (by omega) (by first | omega | exact m2_lt _)) ?_
        refine nr_top (y := nI kd) (congrArg nI (ch_at _ _ _)) ?_
        refine lv_iload hx hb dL_does_229 (lv_at hl 1 rfl) ?_
        refine br_ine (tgt := 238) hx hb dL_does_231 (by decide) (by omega) (by omega) (fun h34 => ?_) (fun h34 => ?_)
        · exact absurd rfl h34
        · skip
          refine nr_const (v := 1) hx hb dL_does_234 rfl ?_
          refine lv_goto (tgt := 239) hx hb dL_does_235 (by decide) ?_
          exact obretz (post := fun (r : Int32) (u : Nat → Nat) => r = nI 1 ∧ (q_iv (hbd + 64) u)) (ob := fun (u : Nat → Nat) => q_OB G AA c0 (hbd + 64) u q_hT) hx hb hr hlk hS (chM M (.inr (120 + 4 * kc + (m2 (v >>> ((nI 9) &&& 31))), kd))) (q_OB_le hO (by omega)) ⟨rfl, q_iv_le (ch_iv hv (oG_w hkc (m2_lt _) hkd) (by have := m2_lt (v >>> ((nI 9) &&& 31)); omega) (fun c hc => by have := m2_lt (v >>> ((nI 9) &&& 31)); omega)) (by omega)⟩ dL_does_239
    · skip
      refine lv_bipush (v := (-5)) hx hb dL_does_207 (by decide +kernel) ?_
      refine lv_goto (tgt := 214) hx hb dL_does_209 (by decide) ?_
      refine lv_icmp_ne (tgt := 238) hx hb dL_does_214 (by decide) (fun h35 => ?_) (fun h35 => ?_)
      · exact absurd (by first | exact ch_e (by assumption) | exact ch_n (by assumption)) h35
      · skip
        refine lv_aload_n hx hb dL_does_217 rfl (lv_at hl 5 rfl) ?_
        refine lv_iload hx hb dL_does_218 (lv_at hl 3 rfl) ?_
        refine lv_iload_n hx hb dL_does_220 rfl (lv_at hl 6 rfl) ?_
        refine nr_bi (v := 9) hx hb dL_does_221 (by decide +kernel) ?_
        refine lv_ishr hx hb dL_does_223 ?_
        refine nr_const (v := 3) hx hb dL_does_224 rfl ?_
        refine lv_iand hx hb dL_does_225 ?_
        refine nr_top (y := nI (m2 (v >>> ((nI 9) &&& 31)))) (m2_a _) ?_
        refine k_cousin ⟨hx, hb, hml, hown, hts⟩ (cwV 2 hts gL_does_X5_cousin rfl rfl rfl (by decide +kernel) ⟨Nat.le_of_ble_eq_true rfl, Nat.le_of_ble_eq_true rfl⟩) hK hNW hAA  hO hS hl.1 (Nat.le_of_ble_eq_true rfl) dL_does_226 ⟨Nat.zero_le _, Nat.zero_le _⟩ (fun H locs hO hS => ?_)
        have hO : q_OB G AA c0 hbd (chM M (.inr (120 + 4 * kc + (m2 (v >>> ((nI 9) &&& 31))), kd))) q_hT _ := hO
        refine nr_top (y := nI ((chM M (.inr (120 + 4 * kc + (m2 (v >>> ((nI 9) &&& 31))), kd))) (120 + 4 * kc + (m2 (v >>> ((nI 9) &&& 31)))))) (cz_a (by omega) (by first | omega | exact m2_lt _)) ?_
        refine nr_top (y := nI kd) (congrArg nI (ch_at _ _ _)) ?_
        refine lv_iload hx hb dL_does_229 (lv_at hl 1 rfl) ?_
        refine br_ine (tgt := 238) hx hb dL_does_231 (by decide) (by omega) (by omega) (fun h36 => ?_) (fun h36 => ?_)
        · exact absurd rfl h36
        · skip
          refine nr_const (v := 1) hx hb dL_does_234 rfl ?_
          refine lv_goto (tgt := 239) hx hb dL_does_235 (by decide) ?_
          exact obretz (post := fun (r : Int32) (u : Nat → Nat) => r = nI 1 ∧ (q_iv (hbd + 64) u)) (ob := fun (u : Nat → Nat) => q_OB G AA c0 (hbd + 64) u q_hT) hx hb hr hlk hS (chM M (.inr (120 + 4 * kc + (m2 (v >>> ((nI 9) &&& 31))), kd))) (q_OB_le hO (by omega)) ⟨rfl, q_iv_le (ch_iv hv (oG_w hkc (m2_lt _) hkd) (by have := m2_lt (v >>> ((nI 9) &&& 31)); omega) (fun c hc => by have := m2_lt (v >>> ((nI 9) &&& 31)); omega)) (by omega)⟩ dL_does_239
  · refine nr_top (congrArg nI h1) ?_
    refine lv_tableIn (off := 196) (tgt := 240) hx hb dL_does_44 (by decide) (by decide) rfl (by decide) ?_
    refine lv_iload hx hb dL_does_240 (lv_at hl 2 rfl) ?_
    refine lv_iload hx hb dL_does_242 (lv_at hl 1 rfl) ?_
    refine br_ine (tgt := 251) hx hb dL_does_244 (by decide) (by omega) (by omega) (fun h37 => ?_) (fun h37 => ?_)
    · skip
      refine lv_aload_n hx hb dL_does_251 rfl (lv_at hl 4 rfl) ?_
      refine lv_iload hx hb dL_does_252 (lv_at hl 2 rfl) ?_
      refine lv_iload hx hb dL_does_254 (lv_at hl 1 rfl) ?_
      refine nr_const (v := 0) hx hb dL_does_256 rfl ?_
      refine k_pair ⟨hx, hb, hml, hown, hts⟩ (cwV 3 hts gL_does_X5_pair rfl rfl rfl (by decide +kernel) ⟨Nat.le_of_ble_eq_true rfl, Nat.le_of_ble_eq_true rfl⟩) hK hNW hAA  hO hS hl.1 (Nat.le_of_ble_eq_true rfl) dL_does_257 ⟨Nat.zero_le _, Nat.zero_le _⟩ (fun H locs hO hS => ?_)
      have hO : q_OB G AA c0 hbd M q_hT _ := hO
      refine nr_top (y := nI (gr M kc ko)) (pa_0 (by omega) (by omega) (by omega)) ?_
      refine lv_istore (lv' := [(9, .int (nI (gr M kc ko))), (6, .int (nI kd)), (5, .int (nI ko)), (4, .int (nI kc)), (3, .int (nI kp)), (0, .ref c0), (1, .int v), (2, .int w)]) hx hb dL_does_260 hl (by decide) rfl (fun ls hl => ?_)
      refine lv_aload_n hx hb dL_does_262 rfl (lv_at hl 5 rfl) ?_
      refine lv_iload hx hb dL_does_263 (lv_at hl 3 rfl) ?_
      refine lv_iload hx hb dL_does_265 (lv_at hl 2 rfl) ?_
      refine lv_iload hx hb dL_does_267 (lv_at hl 1 rfl) ?_
      refine k_grudge ⟨hx, hb, hml, hown, hts⟩ (cwV 3 hts gL_does_X5_grudge rfl rfl rfl (by decide +kernel) ⟨Nat.le_of_ble_eq_true rfl, Nat.le_of_ble_eq_true rfl⟩) hK hNW hAA (pG_y hkc hko hkd (by assumption)) (oG_g hkc hko hkd) hv hO hS hl.1 (Nat.le_of_ble_eq_true rfl) dL_does_269 ⟨Nat.zero_le _, Nat.zero_le _⟩ (fun H locs hO hS => ?_)
      have hO : q_OB G AA c0 hbd (chM M (.inr (148 + 7 * kc + ko, kd))) q_hT _ := hO
      have hgg := gr_le h0k hkc hko
      refine lv_iload hx hb dL_does_272 (lv_at hl 3 rfl) ?_
      refine lv_iload hx hb dL_does_274 (lv_at hl 2 rfl) ?_
      refine br_ine (tgt := 284) hx hb dL_does_276 (by decide) (by omega) (by omega) (fun h38 => ?_) (fun h38 => ?_)
      · skip
        refine lv_iload hx hb dL_does_284 (lv_at hl 0 rfl) ?_
        refine lv_iload hx hb dL_does_286 (lv_at hl 1 rfl) ?_
        refine br_ine (tgt := 296) hx hb dL_does_288 (by decide) (by omega) (by omega) (fun h39 => ?_) (fun h39 => ?_)
        · skip
          refine lv_iload hx hb dL_does_296 (lv_at hl 0 rfl) ?_
          refine lv_icmp_ne (tgt := 305) hx hb dL_does_298 (by decide) (fun h40 => ?_) (fun h40 => ?_)
          · exact absurd (by first | exact ch_e (by assumption) | exact ch_n (by assumption)) h40
          · skip
            refine nr_const (v := 1) hx hb dL_does_301 rfl ?_
            refine lv_goto (tgt := 306) hx hb dL_does_302 (by decide) ?_
            exact obretz (post := fun (r : Int32) (u : Nat → Nat) => r = nI 1 ∧ (q_iv (hbd + 64) u)) (ob := fun (u : Nat → Nat) => q_OB G AA c0 (hbd + 64) u q_hT) hx hb hr hlk hS (chM M (.inr (148 + 7 * kc + ko, kd))) (q_OB_le hO (by omega)) ⟨rfl, q_iv_le (ch_iv hv (oG_g hkc hko hkd) (by omega) (fun c hc => by omega)) (by omega)⟩ dL_does_306
        · skip
          refine lv_bipush (v := (-5)) hx hb dL_does_291 (by decide +kernel) ?_
          refine lv_goto (tgt := 298) hx hb dL_does_293 (by decide) ?_
          refine lv_icmp_ne (tgt := 305) hx hb dL_does_298 (by decide) (fun h41 => ?_) (fun h41 => ?_)
          · exact absurd (by first | exact ch_e (by assumption) | exact ch_n (by assumption)) h41
          · skip
            refine nr_const (v := 1) hx hb dL_does_301 rfl ?_
            refine lv_goto (tgt := 306) hx hb dL_does_302 (by decide) ?_
            exact obretz (post := fun (r : Int32) (u : Nat → Nat) => r = nI 1 ∧ (q_iv (hbd + 64) u)) (ob := fun (u : Nat → Nat) => q_OB G AA c0 (hbd + 64) u q_hT) hx hb hr hlk hS (chM M (.inr (148 + 7 * kc + ko, kd))) (q_OB_le hO (by omega)) ⟨rfl, q_iv_le (ch_iv hv (oG_g hkc hko hkd) (by omega) (fun c hc => by omega)) (by omega)⟩ dL_does_306
      · exact absurd h38 h37
    · skip
      refine nr_const (v := 0) hx hb dL_does_247 rfl ?_
      refine lv_goto (tgt := 260) hx hb dL_does_248 (by decide) ?_
      refine lv_istore (lv' := [(9, .int (nI 0)), (6, .int (nI kd)), (5, .int (nI ko)), (4, .int (nI kc)), (3, .int (nI kp)), (0, .ref c0), (1, .int v), (2, .int w)]) hx hb dL_does_260 hl (by decide) rfl (fun ls hl => ?_)
      refine lv_aload_n hx hb dL_does_262 rfl (lv_at hl 5 rfl) ?_
      refine lv_iload hx hb dL_does_263 (lv_at hl 3 rfl) ?_
      refine lv_iload hx hb dL_does_265 (lv_at hl 2 rfl) ?_
      refine lv_iload hx hb dL_does_267 (lv_at hl 1 rfl) ?_
      refine k_grudge ⟨hx, hb, hml, hown, hts⟩ (cwV 3 hts gL_does_X5_grudge rfl rfl rfl (by decide +kernel) ⟨Nat.le_of_ble_eq_true rfl, Nat.le_of_ble_eq_true rfl⟩) hK hNW hAA (pG_e hkc (by assumption)) True.intro hv hO hS hl.1 (Nat.le_of_ble_eq_true rfl) dL_does_269 ⟨Nat.zero_le _, Nat.zero_le _⟩ (fun H locs hO hS => ?_)
      have hO : q_OB G AA c0 hbd M q_hT _ := hO
      refine nr_top (y := (-2)) (rfl) ?_
      have hgg := gr_le h0k hkc hko
      refine lv_iload hx hb dL_does_272 (lv_at hl 3 rfl) ?_
      refine lv_iload hx hb dL_does_274 (lv_at hl 2 rfl) ?_
      refine br_ine (tgt := 284) hx hb dL_does_276 (by decide) (by omega) (by omega) (fun h42 => ?_) (fun h42 => ?_)
      · exact absurd h37 h42
      · skip
        refine lv_bipush (v := (-2)) hx hb dL_does_279 (by decide +kernel) ?_
        refine lv_goto (tgt := 298) hx hb dL_does_281 (by decide) ?_
        refine lv_icmp_ne (tgt := 305) hx hb dL_does_298 (by decide) (fun h43 => ?_) (fun h43 => ?_)
        · exact absurd rfl h43
        · skip
          refine nr_const (v := 1) hx hb dL_does_301 rfl ?_
          refine lv_goto (tgt := 306) hx hb dL_does_302 (by decide) ?_
          exact obretz (post := fun (r : Int32) (u : Nat → Nat) => r = nI 1 ∧ (q_iv (hbd + 64) u)) (ob := fun (u : Nat → Nat) => q_OB G AA c0 (hbd + 64) u q_hT) hx hb hr hlk hS (M) (q_OB_le hO (by omega)) ⟨rfl, q_iv_le hv (by omega)⟩ dL_does_306
  · refine nr_top (congrArg nI h1) ?_
    refine lv_tableIn (off := 196) (tgt := 240) hx hb dL_does_44 (by decide) (by decide) rfl (by decide) ?_
    refine lv_iload hx hb dL_does_240 (lv_at hl 2 rfl) ?_
    refine lv_iload hx hb dL_does_242 (lv_at hl 1 rfl) ?_
    refine br_ine (tgt := 251) hx hb dL_does_244 (by decide) (by omega) (by omega) (fun h44 => ?_) (fun h44 => ?_)
    · skip
      refine lv_aload_n hx hb dL_does_251 rfl (lv_at hl 4 rfl) ?_
      refine lv_iload hx hb dL_does_252 (lv_at hl 2 rfl) ?_
      refine lv_iload hx hb dL_does_254 (lv_at hl 1 rfl) ?_
      refine nr_const (v := 0) hx hb dL_does_256 rfl ?_
      refine k_pair ⟨hx, hb, hml, hown, hts⟩ (cwV 3 hts gL_does_X5_pair rfl rfl rfl (by decide +kernel) ⟨Nat.le_of_ble_eq_true rfl, Nat.le_of_ble_eq_true rfl⟩) hK hNW hAA  hO hS hl.1 (Nat.le_of_ble_eq_true rfl) dL_does_257 ⟨Nat.zero_le _, Nat.zero_le _⟩ (fun H locs hO hS => ?_)
      have hO : q_OB G AA c0 hbd M q_hT _ := hO
      refine nr_top (y := nI (gr M kc ko)) (pa_0 (by omega) (by omega) (by omega)) ?_
      refine lv_istore (lv' := [(9, .int (nI (gr M kc ko))), (6, .int (nI kd)), (5, .int (nI ko)), (4, .int (nI kc)), (3, .int (nI kp)), (0, .ref c0), (1, .int v), (2, .int w)]) hx hb dL_does_260 hl (by decide) rfl (fun ls hl => ?_)
      refine lv_aload_n hx hb dL_does_262 rfl (lv_at hl 5 rfl) ?_
      refine lv_iload hx hb dL_does_263 (lv_at hl 3 rfl) ?_
      refine lv_iload hx hb dL_does_265 (lv_at hl 2 rfl) ?_
      refine lv_iload hx hb dL_does_267 (lv_at hl 1 rfl) ?_
      refine k_grudge ⟨hx, hb, hml, hown, hts⟩ (cwV 3 hts gL_does_X5_grudge rfl rfl rfl (by decide +kernel) ⟨Nat.le_of_ble_eq_true rfl, Nat.le_of_ble_eq_true rfl⟩) hK hNW hAA (pG_y hkc hko hkd (by assumption)) (oG_g hkc hko hkd) hv hO hS hl.1 (Nat.le_of_ble_eq_true rfl) dL_does_269 ⟨Nat.zero_le _, Nat.zero_le _⟩ (fun H locs hO hS => ?_)
      have hO : q_OB G AA c0 hbd (chM M (.inr (148 + 7 * kc + ko, kd))) q_hT _ := hO
      have hgg := gr_le h0k hkc hko
      refine lv_iload hx hb dL_does_272 (lv_at hl 3 rfl) ?_
      refine lv_iload hx hb dL_does_274 (lv_at hl 2 rfl) ?_
      refine br_ine (tgt := 284) hx hb dL_does_276 (by decide) (by omega) (by omega) (fun h45 => ?_) (fun h45 => ?_)
      · skip
        refine lv_iload hx hb dL_does_284 (lv_at hl 0 rfl) ?_
        refine lv_iload hx hb dL_does_286 (lv_at hl 1 rfl) ?_
        refine br_ine (tgt := 296) hx hb dL_does_288 (by decide) (by omega) (by omega) (fun h46 => ?_) (fun h46 => ?_)
        · skip
          refine lv_iload hx hb dL_does_296 (lv_at hl 0 rfl) ?_
          refine lv_icmp_ne (tgt := 305) hx hb dL_does_298 (by decide) (fun h47 => ?_) (fun h47 => ?_)
          · exact absurd (by first | exact ch_e (by assumption) | exact ch_n (by assumption)) h47
          · skip
            refine nr_const (v := 1) hx hb dL_does_301 rfl ?_
            refine lv_goto (tgt := 306) hx hb dL_does_302 (by decide) ?_
            exact obretz (post := fun (r : Int32) (u : Nat → Nat) => r = nI 1 ∧ (q_iv (hbd + 64) u)) (ob := fun (u : Nat → Nat) => q_OB G AA c0 (hbd + 64) u q_hT) hx hb hr hlk hS (chM M (.inr (148 + 7 * kc + ko, kd))) (q_OB_le hO (by omega)) ⟨rfl, q_iv_le (ch_iv hv (oG_g hkc hko hkd) (by omega) (fun c hc => by omega)) (by omega)⟩ dL_does_306
        · skip
          refine lv_bipush (v := (-5)) hx hb dL_does_291 (by decide +kernel) ?_
          refine lv_goto (tgt := 298) hx hb dL_does_293 (by decide) ?_
          refine lv_icmp_ne (tgt := 305) hx hb dL_does_298 (by decide) (fun h48 => ?_) (fun h48 => ?_)
          · exact absurd (by first | exact ch_e (by assumption) | exact ch_n (by assumption)) h48
          · skip
            refine nr_const (v := 1) hx hb dL_does_301 rfl ?_
            refine lv_goto (tgt := 306) hx hb dL_does_302 (by decide) ?_
            exact obretz (post := fun (r : Int32) (u : Nat → Nat) => r = nI 1 ∧ (q_iv (hbd + 64) u)) (ob := fun (u : Nat → Nat) => q_OB G AA c0 (hbd + 64) u q_hT) hx hb hr hlk hS (chM M (.inr (148 + 7 * kc + ko, kd))) (q_OB_le hO (by omega)) ⟨rfl, q_iv_le (ch_iv hv (oG_g hkc hko hkd) (by omega) (fun c hc => by omega)) (by omega)⟩ dL_does_306
      · exact absurd h45 h44
    · skip
      refine nr_const (v := 0) hx hb dL_does_247 rfl ?_
      refine lv_goto (tgt := 260) hx hb dL_does_248 (by decide) ?_
      refine lv_istore (lv' := [(9, .int (nI 0)), (6, .int (nI kd)), (5, .int (nI ko)), (4, .int (nI kc)), (3, .int (nI kp)), (0, .ref c0), (1, .int v), (2, .int w)]) hx hb dL_does_260 hl (by decide) rfl (fun ls hl => ?_)
      refine lv_aload_n hx hb dL_does_262 rfl (lv_at hl 5 rfl) ?_
      refine lv_iload hx hb dL_does_263 (lv_at hl 3 rfl) ?_
      refine lv_iload hx hb dL_does_265 (lv_at hl 2 rfl) ?_
      refine lv_iload hx hb dL_does_267 (lv_at hl 1 rfl) ?_
      refine k_grudge ⟨hx, hb, hml, hown, hts⟩ (cwV 3 hts gL_does_X5_grudge rfl rfl rfl (by decide +kernel) ⟨Nat.le_of_ble_eq_true rfl, Nat.le_of_ble_eq_true rfl⟩) hK hNW hAA (pG_e hkc (by assumption)) True.intro hv hO hS hl.1 (Nat.le_of_ble_eq_true rfl) dL_does_269 ⟨Nat.zero_le _, Nat.zero_le _⟩ (fun H locs hO hS => ?_)
      have hO : q_OB G AA c0 hbd M q_hT _ := hO
      refine nr_top (y := (-2)) (rfl) ?_
      have hgg := gr_le h0k hkc hko
      refine lv_iload hx hb dL_does_272 (lv_at hl 3 rfl) ?_
      refine lv_iload hx hb dL_does_274 (lv_at hl 2 rfl) ?_
      refine br_ine (tgt := 284) hx hb dL_does_276 (by decide) (by omega) (by omega) (fun h49 => ?_) (fun h49 => ?_)
      · exact absurd h44 h49
      · skip
        refine lv_bipush (v := (-2)) hx hb dL_does_279 (by decide +kernel) ?_
        refine lv_goto (tgt := 298) hx hb dL_does_281 (by decide) ?_
        refine lv_icmp_ne (tgt := 305) hx hb dL_does_298 (by decide) (fun h50 => ?_) (fun h50 => ?_)
        · exact absurd rfl h50
        · skip
          refine nr_const (v := 1) hx hb dL_does_301 rfl ?_
          refine lv_goto (tgt := 306) hx hb dL_does_302 (by decide) ?_
          exact obretz (post := fun (r : Int32) (u : Nat → Nat) => r = nI 1 ∧ (q_iv (hbd + 64) u)) (ob := fun (u : Nat → Nat) => q_OB G AA c0 (hbd + 64) u q_hT) hx hb hr hlk hS (M) (q_OB_le hO (by omega)) ⟨rfl, q_iv_le hv (by omega)⟩ dL_does_306
  · refine nr_top (congrArg nI h1) ?_
    refine lv_tableIn (off := 196) (tgt := 240) hx hb dL_does_44 (by decide) (by decide) rfl (by decide) ?_
    refine lv_iload hx hb dL_does_240 (lv_at hl 2 rfl) ?_
    refine lv_iload hx hb dL_does_242 (lv_at hl 1 rfl) ?_
    refine br_ine (tgt := 251) hx hb dL_does_244 (by decide) (by omega) (by omega) (fun h51 => ?_) (fun h51 => ?_)
    · skip
      refine lv_aload_n hx hb dL_does_251 rfl (lv_at hl 4 rfl) ?_
      refine lv_iload hx hb dL_does_252 (lv_at hl 2 rfl) ?_
      refine lv_iload hx hb dL_does_254 (lv_at hl 1 rfl) ?_
      refine nr_const (v := 0) hx hb dL_does_256 rfl ?_
      refine k_pair ⟨hx, hb, hml, hown, hts⟩ (cwV 3 hts gL_does_X5_pair rfl rfl rfl (by decide +kernel) ⟨Nat.le_of_ble_eq_true rfl, Nat.le_of_ble_eq_true rfl⟩) hK hNW hAA  hO hS hl.1 (Nat.le_of_ble_eq_true rfl) dL_does_257 ⟨Nat.zero_le _, Nat.zero_le _⟩ (fun H locs hO hS => ?_)
      have hO : q_OB G AA c0 hbd M q_hT _ := hO
      refine nr_top (y := nI (gr M kc ko)) (pa_0 (by omega) (by omega) (by omega)) ?_
      refine lv_istore (lv' := [(9, .int (nI (gr M kc ko))), (6, .int (nI kd)), (5, .int (nI ko)), (4, .int (nI kc)), (3, .int (nI kp)), (0, .ref c0), (1, .int v), (2, .int w)]) hx hb dL_does_260 hl (by decide) rfl (fun ls hl => ?_)
      refine lv_aload_n hx hb dL_does_262 rfl (lv_at hl 5 rfl) ?_
      refine lv_iload hx hb dL_does_263 (lv_at hl 3 rfl) ?_
      refine lv_iload hx hb dL_does_265 (lv_at hl 2 rfl) ?_
      refine lv_iload hx hb dL_does_267 (lv_at hl 1 rfl) ?_
      refine k_grudge ⟨hx, hb, hml, hown, hts⟩ (cwV 3 hts gL_does_X5_grudge rfl rfl rfl (by decide +kernel) ⟨Nat.le_of_ble_eq_true rfl, Nat.le_of_ble_eq_true rfl⟩) hK hNW hAA (pG_y hkc hko hkd (by assumption)) (oG_g hkc hko hkd) hv hO hS hl.1 (Nat.le_of_ble_eq_true rfl) dL_does_269 ⟨Nat.zero_le _, Nat.zero_le _⟩ (fun H locs hO hS => ?_)
      have hO : q_OB G AA c0 hbd (chM M (.inr (148 + 7 * kc + ko, kd))) q_hT _ := hO
      have hgg := gr_le h0k hkc hko
      refine lv_iload hx hb dL_does_272 (lv_at hl 3 rfl) ?_
      refine lv_iload hx hb dL_does_274 (lv_at hl 2 rfl) ?_
      refine br_ine (tgt := 284) hx hb dL_does_276 (by decide) (by omega) (by omega) (fun h52 => ?_) (fun h52 => ?_)
      · skip
        refine lv_iload hx hb dL_does_284 (lv_at hl 0 rfl) ?_
        refine lv_iload hx hb dL_does_286 (lv_at hl 1 rfl) ?_
        refine br_ine (tgt := 296) hx hb dL_does_288 (by decide) (by omega) (by omega) (fun h53 => ?_) (fun h53 => ?_)
        · skip
          refine lv_iload hx hb dL_does_296 (lv_at hl 0 rfl) ?_
          refine lv_icmp_ne (tgt := 305) hx hb dL_does_298 (by decide) (fun h54 => ?_) (fun h54 => ?_)
          · exact absurd (by first | exact ch_e (by assumption) | exact ch_n (by assumption)) h54
          · skip
            refine nr_const (v := 1) hx hb dL_does_301 rfl ?_
            refine lv_goto (tgt := 306) hx hb dL_does_302 (by decide) ?_
            exact obretz (post := fun (r : Int32) (u : Nat → Nat) => r = nI 1 ∧ (q_iv (hbd + 64) u)) (ob := fun (u : Nat → Nat) => q_OB G AA c0 (hbd + 64) u q_hT) hx hb hr hlk hS (chM M (.inr (148 + 7 * kc + ko, kd))) (q_OB_le hO (by omega)) ⟨rfl, q_iv_le (ch_iv hv (oG_g hkc hko hkd) (by omega) (fun c hc => by omega)) (by omega)⟩ dL_does_306
        · skip
          refine lv_bipush (v := (-5)) hx hb dL_does_291 (by decide +kernel) ?_
          refine lv_goto (tgt := 298) hx hb dL_does_293 (by decide) ?_
          refine lv_icmp_ne (tgt := 305) hx hb dL_does_298 (by decide) (fun h55 => ?_) (fun h55 => ?_)
          · exact absurd (by first | exact ch_e (by assumption) | exact ch_n (by assumption)) h55
          · skip
            refine nr_const (v := 1) hx hb dL_does_301 rfl ?_
            refine lv_goto (tgt := 306) hx hb dL_does_302 (by decide) ?_
            exact obretz (post := fun (r : Int32) (u : Nat → Nat) => r = nI 1 ∧ (q_iv (hbd + 64) u)) (ob := fun (u : Nat → Nat) => q_OB G AA c0 (hbd + 64) u q_hT) hx hb hr hlk hS (chM M (.inr (148 + 7 * kc + ko, kd))) (q_OB_le hO (by omega)) ⟨rfl, q_iv_le (ch_iv hv (oG_g hkc hko hkd) (by omega) (fun c hc => by omega)) (by omega)⟩ dL_does_306
      · exact absurd h52 h51
    · skip
      refine nr_const (v := 0) hx hb dL_does_247 rfl ?_
      refine lv_goto (tgt := 260) hx hb dL_does_248 (by decide) ?_
      refine lv_istore (lv' := [(9, .int (nI 0)), (6, .int (nI kd)), (5, .int (nI ko)), (4, .int (nI kc)), (3, .int (nI kp)), (0, .ref c0), (1, .int v), (2, .int w)]) hx hb dL_does_260 hl (by decide) rfl (fun ls hl => ?_)
      refine lv_aload_n hx hb dL_does_262 rfl (lv_at hl 5 rfl) ?_
      refine lv_iload hx hb dL_does_263 (lv_at hl 3 rfl) ?_
      refine lv_iload hx hb dL_does_265 (lv_at hl 2 rfl) ?_
      refine lv_iload hx hb dL_does_267 (lv_at hl 1 rfl) ?_
      refine k_grudge ⟨hx, hb, hml, hown, hts⟩ (cwV 3 hts gL_does_X5_grudge rfl rfl rfl (by decide +kernel) ⟨Nat.le_of_ble_eq_true rfl, Nat.le_of_ble_eq_true rfl⟩) hK hNW hAA (pG_e hkc (by assumption)) True.intro hv hO hS hl.1 (Nat.le_of_ble_eq_true rfl) dL_does_269 ⟨Nat.zero_le _, Nat.zero_le _⟩ (fun H locs hO hS => ?_)
      have hO : q_OB G AA c0 hbd M q_hT _ := hO
      refine nr_top (y := (-2)) (rfl) ?_
      have hgg := gr_le h0k hkc hko
      refine lv_iload hx hb dL_does_272 (lv_at hl 3 rfl) ?_
      refine lv_iload hx hb dL_does_274 (lv_at hl 2 rfl) ?_
      refine br_ine (tgt := 284) hx hb dL_does_276 (by decide) (by omega) (by omega) (fun h56 => ?_) (fun h56 => ?_)
      · exact absurd h51 h56
      · skip
        refine lv_bipush (v := (-2)) hx hb dL_does_279 (by decide +kernel) ?_
        refine lv_goto (tgt := 298) hx hb dL_does_281 (by decide) ?_
        refine lv_icmp_ne (tgt := 305) hx hb dL_does_298 (by decide) (fun h57 => ?_) (fun h57 => ?_)
        · exact absurd rfl h57
        · skip
          refine nr_const (v := 1) hx hb dL_does_301 rfl ?_
          refine lv_goto (tgt := 306) hx hb dL_does_302 (by decide) ?_
          exact obretz (post := fun (r : Int32) (u : Nat → Nat) => r = nI 1 ∧ (q_iv (hbd + 64) u)) (ob := fun (u : Nat → Nat) => q_OB G AA c0 (hbd + 64) u q_hT) hx hb hr hlk hS (M) (q_OB_le hO (by omega)) ⟨rfl, q_iv_le hv (by omega)⟩ dL_does_306
  · refine nr_top (congrArg nI h1) ?_
    refine lv_tableIn (off := 263) (tgt := 307) hx hb dL_does_44 (by decide) (by decide) rfl (by decide) ?_
    refine lv_iload_n hx hb dL_does_307 rfl (lv_at hl 6 rfl) ?_
    refine nr_const (v := 1) hx hb dL_does_308 rfl ?_
    refine lv_iand hx hb dL_does_309 ?_
    refine nr_top (y := nI (m1b w)) (m1b_a w) ?_
    refine lv_istore (lv' := [(10, .int (nI (m1b w))), (6, .int (nI kd)), (5, .int (nI ko)), (4, .int (nI kc)), (3, .int (nI kp)), (0, .ref c0), (1, .int v), (2, .int w)]) hx hb dL_does_310 hl (by decide) rfl (fun ls hl => ?_)
    refine lv_iload hx hb dL_does_312 (lv_at hl 0 rfl) ?_
    refine br_ne0 (tgt := 325) hx hb dL_does_314 (by decide) (Nat.lt_trans (m1b_lt w) (by decide)) (fun h58 => ?_) (fun h58 => ?_)
    · skip
      refine nr_const (v := 1) hx hb dL_does_325 rfl ?_
      refine lv_iload_n hx hb dL_does_326 rfl (lv_at hl 7 rfl) ?_
      refine nr_const (v := 1) hx hb dL_does_327 rfl ?_
      refine lv_ishr hx hb dL_does_328 ?_
      refine nr_bi (v := 10) hx hb dL_does_329 (by decide +kernel) ?_
      refine rcS (As := [.int (w >>> ((nI 1) &&& 31)), .int (nI 10)]) ⟨hx, hb, hml, hown, hts⟩ (c_L_low l (w >>> ((nI 1) &&& 31)) 10 (by omega) (by omega)) (va_cwS 2 hts gL_does_L_low rfl rfl rfl (by decide +kernel) ⟨Nat.le_of_ble_eq_true rfl, Nat.le_of_ble_eq_true rfl⟩) rfl hl.1 rfl (Nat.le_of_ble_eq_true rfl) dL_does_331 ⟨Nat.zero_le _, Nat.zero_le _⟩ ?_
      refine nr_add hx hb dL_does_334 ?_
      have hm1 := m1b_lt w
      have hm2 := m1b_lt (w >>> ((nI 1) &&& 31))
      have hlo : lo (w >>> ((nI 1) &&& 31)) 10 < 10 := lo_lt (by decide)
      obtain ⟨kv, ⟨hkv1, hkv2, hkv3⟩, epv⟩ : ∃ a, (a < 11 ∧ (m1b w = 0 → a < 2) ∧ (m1b w = 1 → 0 < a)) ∧ nI (1 + (lo (w >>> ((nI 1) &&& 31)) 10)) = nI a := ⟨1 + (lo (w >>> ((nI 1) &&& 31)) 10), ⟨by omega, fun _ => by omega, fun _ => by omega⟩, rfl⟩
      refine nr_top epv ?_
      refine lv_istore (lv' := [(11, .int (nI kv)), (10, .int (nI (m1b w))), (6, .int (nI kd)), (5, .int (nI ko)), (4, .int (nI kc)), (3, .int (nI kp)), (0, .ref c0), (1, .int v), (2, .int w)]) hx hb dL_does_335 hl (by decide) rfl (fun ls hl => ?_)
      refine lv_aload_n hx hb dL_does_337 rfl (lv_at hl 6 rfl) ?_
      refine lv_iload hx hb dL_does_338 (lv_at hl 1 rfl) ?_
      refine k_total ⟨hx, hb, hml, hown, hts⟩ (cwV 1 hts gL_does_X5_total rfl rfl rfl (by decide +kernel) ⟨Nat.le_of_ble_eq_true rfl, Nat.le_of_ble_eq_true rfl⟩) hK hNW hAA (fun q => by have h := (nI_eq (by have := m1b_lt w; omega) (by decide)).mp q; have := m1b_lt w; omega) hO hS hl.1 (Nat.le_of_ble_eq_true rfl) dL_does_340 ⟨Nat.zero_le _, Nat.zero_le _⟩ (fun H locs hO hS => ?_)
      have hO : q_OB G AA c0 hbd M q_hT _ := hO
      refine nr_top (y := nI (M (197 + (m1b w)))) (to_s (by first | omega | exact m1b_lt _)) ?_
      refine lv_istore (lv' := [(12, .int (nI (M (197 + (m1b w))))), (11, .int (nI kv)), (10, .int (nI (m1b w))), (6, .int (nI kd)), (5, .int (nI ko)), (4, .int (nI kc)), (3, .int (nI kp)), (0, .ref c0), (1, .int v), (2, .int w)]) hx hb dL_does_343 hl (by decide) rfl (fun ls hl => ?_)
      refine lv_aload_n hx hb dL_does_345 rfl (lv_at hl 7 rfl) ?_
      refine lv_iload hx hb dL_does_346 (lv_at hl 2 rfl) ?_
      refine lv_iload hx hb dL_does_348 (lv_at hl 1 rfl) ?_
      refine k_set ⟨hx, hb, hml, hown, hts⟩ (cwV 2 hts gL_does_X5_set rfl rfl rfl (by decide +kernel) ⟨Nat.le_of_ble_eq_true rfl, Nat.le_of_ble_eq_true rfl⟩) hK hNW hAA (pS_y (m1b_lt w) hkv1 hkv2 hkv3) (oG_s (m1b_lt w) hkv1 hkv2 hkv3) hv hO hS hl.1 (Nat.le_of_ble_eq_true rfl) dL_does_350 ⟨Nat.zero_le _, Nat.zero_le _⟩ (fun H locs hO hS => ?_)
      have hO : q_OB G AA c0 hbd (chM M (.inr (197 + (m1b w), kv))) q_hT _ := hO
      have hb1 := se_lt h0k (m1b_lt w)
      refine lv_iload hx hb dL_does_353 (lv_at hl 0 rfl) ?_
      refine lv_iload hx hb dL_does_355 (lv_at hl 1 rfl) ?_
      refine br_ine (tgt := 365) hx hb dL_does_357 (by decide) (by omega) (by omega) (fun h59 => ?_) (fun h59 => ?_)
      · skip
        refine lv_iload hx hb dL_does_365 (lv_at hl 0 rfl) ?_
        refine lv_icmp_ne (tgt := 385) hx hb dL_does_367 (by decide) (fun h60 => ?_) (fun h60 => ?_)
        · exact absurd (by first | exact ch_e (by assumption) | exact ch_n (by assumption)) h60
        · skip
          refine lv_aload_n hx hb dL_does_370 rfl (lv_at hl 7 rfl) ?_
          refine lv_iload hx hb dL_does_371 (lv_at hl 2 rfl) ?_
          refine k_total ⟨hx, hb, hml, hown, hts⟩ (cwV 1 hts gL_does_X5_total rfl rfl rfl (by decide +kernel) ⟨Nat.le_of_ble_eq_true rfl, Nat.le_of_ble_eq_true rfl⟩) hK hNW hAA (fun q => by have h := (nI_eq (by have := m1b_lt w; omega) (by decide)).mp q; have := m1b_lt w; omega) hO hS hl.1 (Nat.le_of_ble_eq_true rfl) dL_does_373 ⟨Nat.zero_le _, Nat.zero_le _⟩ (fun H locs hO hS => ?_)
          have hO : q_OB G AA c0 hbd (chM M (.inr (197 + (m1b w), kv))) q_hT _ := hO
          refine nr_top (y := nI ((chM M (.inr (197 + (m1b w), kv))) (197 + (m1b w)))) (to_s (by first | omega | exact m1b_lt _)) ?_
          refine nr_top (y := nI kv) (congrArg nI (ch_at _ _ _)) ?_
          refine lv_iload hx hb dL_does_376 (lv_at hl 1 rfl) ?_
          refine br_ine (tgt := 385) hx hb dL_does_378 (by decide) (by omega) (by omega) (fun h61 => ?_) (fun h61 => ?_)
          · exact absurd rfl h61
          · skip
            refine nr_const (v := 1) hx hb dL_does_381 rfl ?_
            refine lv_goto (tgt := 386) hx hb dL_does_382 (by decide) ?_
            exact obretz (post := fun (r : Int32) (u : Nat → Nat) => r = nI 1 ∧ (q_iv (hbd + 64) u)) (ob := fun (u : Nat → Nat) => q_OB G AA c0 (hbd + 64) u q_hT) hx hb hr hlk hS (chM M (.inr (197 + (m1b w), kv))) (q_OB_le hO (by omega)) ⟨rfl, q_iv_le (ch_iv hv (oG_s (m1b_lt w) hkv1 hkv2 hkv3) (by omega) (fun c hc => by omega)) (by omega)⟩ dL_does_386
      · skip
        refine lv_bipush (v := (-5)) hx hb dL_does_360 (by decide +kernel) ?_
        refine lv_goto (tgt := 367) hx hb dL_does_362 (by decide) ?_
        refine lv_icmp_ne (tgt := 385) hx hb dL_does_367 (by decide) (fun h62 => ?_) (fun h62 => ?_)
        · exact absurd (by first | exact ch_e (by assumption) | exact ch_n (by assumption)) h62
        · skip
          refine lv_aload_n hx hb dL_does_370 rfl (lv_at hl 7 rfl) ?_
          refine lv_iload hx hb dL_does_371 (lv_at hl 2 rfl) ?_
          refine k_total ⟨hx, hb, hml, hown, hts⟩ (cwV 1 hts gL_does_X5_total rfl rfl rfl (by decide +kernel) ⟨Nat.le_of_ble_eq_true rfl, Nat.le_of_ble_eq_true rfl⟩) hK hNW hAA (fun q => by have h := (nI_eq (by have := m1b_lt w; omega) (by decide)).mp q; have := m1b_lt w; omega) hO hS hl.1 (Nat.le_of_ble_eq_true rfl) dL_does_373 ⟨Nat.zero_le _, Nat.zero_le _⟩ (fun H locs hO hS => ?_)
          have hO : q_OB G AA c0 hbd (chM M (.inr (197 + (m1b w), kv))) q_hT _ := hO
          refine nr_top (y := nI ((chM M (.inr (197 + (m1b w), kv))) (197 + (m1b w)))) (to_s (by first | omega | exact m1b_lt _)) ?_
          refine nr_top (y := nI kv) (congrArg nI (ch_at _ _ _)) ?_
          refine lv_iload hx hb dL_does_376 (lv_at hl 1 rfl) ?_
          refine br_ine (tgt := 385) hx hb dL_does_378 (by decide) (by omega) (by omega) (fun h63 => ?_) (fun h63 => ?_)
          · exact absurd rfl h63
          · skip
            refine nr_const (v := 1) hx hb dL_does_381 rfl ?_
            refine lv_goto (tgt := 386) hx hb dL_does_382 (by decide) ?_
            exact obretz (post := fun (r : Int32) (u : Nat → Nat) => r = nI 1 ∧ (q_iv (hbd + 64) u)) (ob := fun (u : Nat → Nat) => q_OB G AA c0 (hbd + 64) u q_hT) hx hb hr hlk hS (chM M (.inr (197 + (m1b w), kv))) (q_OB_le hO (by omega)) ⟨rfl, q_iv_le (ch_iv hv (oG_s (m1b_lt w) hkv1 hkv2 hkv3) (by omega) (fun c hc => by omega)) (by omega)⟩ dL_does_386
    · skip
      refine lv_iload_n hx hb dL_does_317 rfl (lv_at hl 7 rfl) ?_
      refine nr_const (v := 1) hx hb dL_does_318 rfl ?_
      refine lv_ishr hx hb dL_does_319 ?_
      refine nr_const (v := 1) hx hb dL_does_320 rfl ?_
      refine lv_iand hx hb dL_does_321 ?_
      refine nr_top (y := nI (m1b (w >>> ((nI 1) &&& 31)))) (m1b_a _) ?_
      refine lv_goto (tgt := 335) hx hb dL_does_322 (by decide) ?_
      have hm1 := m1b_lt w
      have hm2 := m1b_lt (w >>> ((nI 1) &&& 31))
      have hlo : lo (w >>> ((nI 1) &&& 31)) 10 < 10 := lo_lt (by decide)
      obtain ⟨kv, ⟨hkv1, hkv2, hkv3⟩, epv⟩ : ∃ a, (a < 11 ∧ (m1b w = 0 → a < 2) ∧ (m1b w = 1 → 0 < a)) ∧ nI (m1b (w >>> ((nI 1) &&& 31))) = nI a := ⟨m1b (w >>> ((nI 1) &&& 31)), ⟨by omega, fun _ => by omega, fun _ => by omega⟩, rfl⟩
      refine nr_top epv ?_
      refine lv_istore (lv' := [(11, .int (nI kv)), (10, .int (nI (m1b w))), (6, .int (nI kd)), (5, .int (nI ko)), (4, .int (nI kc)), (3, .int (nI kp)), (0, .ref c0), (1, .int v), (2, .int w)]) hx hb dL_does_335 hl (by decide) rfl (fun ls hl => ?_)
      refine lv_aload_n hx hb dL_does_337 rfl (lv_at hl 6 rfl) ?_
      refine lv_iload hx hb dL_does_338 (lv_at hl 1 rfl) ?_
      refine k_total ⟨hx, hb, hml, hown, hts⟩ (cwV 1 hts gL_does_X5_total rfl rfl rfl (by decide +kernel) ⟨Nat.le_of_ble_eq_true rfl, Nat.le_of_ble_eq_true rfl⟩) hK hNW hAA (fun q => by have h := (nI_eq (by have := m1b_lt w; omega) (by decide)).mp q; have := m1b_lt w; omega) hO hS hl.1 (Nat.le_of_ble_eq_true rfl) dL_does_340 ⟨Nat.zero_le _, Nat.zero_le _⟩ (fun H locs hO hS => ?_)
      have hO : q_OB G AA c0 hbd M q_hT _ := hO
      refine nr_top (y := nI (M (197 + (m1b w)))) (to_s (by first | omega | exact m1b_lt _)) ?_
      refine lv_istore (lv' := [(12, .int (nI (M (197 + (m1b w))))), (11, .int (nI kv)), (10, .int (nI (m1b w))), (6, .int (nI kd)), (5, .int (nI ko)), (4, .int (nI kc)), (3, .int (nI kp)), (0, .ref c0), (1, .int v), (2, .int w)]) hx hb dL_does_343 hl (by decide) rfl (fun ls hl => ?_)
      refine lv_aload_n hx hb dL_does_345 rfl (lv_at hl 7 rfl) ?_
      refine lv_iload hx hb dL_does_346 (lv_at hl 2 rfl) ?_
      refine lv_iload hx hb dL_does_348 (lv_at hl 1 rfl) ?_
      refine k_set ⟨hx, hb, hml, hown, hts⟩ (cwV 2 hts gL_does_X5_set rfl rfl rfl (by decide +kernel) ⟨Nat.le_of_ble_eq_true rfl, Nat.le_of_ble_eq_true rfl⟩) hK hNW hAA (pS_y (m1b_lt w) hkv1 hkv2 hkv3) (oG_s (m1b_lt w) hkv1 hkv2 hkv3) hv hO hS hl.1 (Nat.le_of_ble_eq_true rfl) dL_does_350 ⟨Nat.zero_le _, Nat.zero_le _⟩ (fun H locs hO hS => ?_)
      have hO : q_OB G AA c0 hbd (chM M (.inr (197 + (m1b w), kv))) q_hT _ := hO
      have hb1 := se_lt h0k (m1b_lt w)
      refine lv_iload hx hb dL_does_353 (lv_at hl 0 rfl) ?_
      refine lv_iload hx hb dL_does_355 (lv_at hl 1 rfl) ?_
      refine br_ine (tgt := 365) hx hb dL_does_357 (by decide) (by omega) (by omega) (fun h64 => ?_) (fun h64 => ?_)
      · skip
        refine lv_iload hx hb dL_does_365 (lv_at hl 0 rfl) ?_
        refine lv_icmp_ne (tgt := 385) hx hb dL_does_367 (by decide) (fun h65 => ?_) (fun h65 => ?_)
        · exact absurd (by first | exact ch_e (by assumption) | exact ch_n (by assumption)) h65
        · skip
          refine lv_aload_n hx hb dL_does_370 rfl (lv_at hl 7 rfl) ?_
          refine lv_iload hx hb dL_does_371 (lv_at hl 2 rfl) ?_
          refine k_total ⟨hx, hb, hml, hown, hts⟩ (cwV 1 hts gL_does_X5_total rfl rfl rfl (by decide +kernel) ⟨Nat.le_of_ble_eq_true rfl, Nat.le_of_ble_eq_true rfl⟩) hK hNW hAA (fun q => by have h := (nI_eq (by have := m1b_lt w; omega) (by decide)).mp q; have := m1b_lt w; omega) hO hS hl.1 (Nat.le_of_ble_eq_true rfl) dL_does_373 ⟨Nat.zero_le _, Nat.zero_le _⟩ (fun H locs hO hS => ?_)
          have hO : q_OB G AA c0 hbd (chM M (.inr (197 + (m1b w), kv))) q_hT _ := hO
          refine nr_top (y := nI ((chM M (.inr (197 + (m1b w), kv))) (197 + (m1b w)))) (to_s (by first | omega | exact m1b_lt _)) ?_
          refine nr_top (y := nI kv) (congrArg nI (ch_at _ _ _)) ?_
          refine lv_iload hx hb dL_does_376 (lv_at hl 1 rfl) ?_
          refine br_ine (tgt := 385) hx hb dL_does_378 (by decide) (by omega) (by omega) (fun h66 => ?_) (fun h66 => ?_)
          · exact absurd rfl h66
          · skip
            refine nr_const (v := 1) hx hb dL_does_381 rfl ?_
            refine lv_goto (tgt := 386) hx hb dL_does_382 (by decide) ?_
            exact obretz (post := fun (r : Int32) (u : Nat → Nat) => r = nI 1 ∧ (q_iv (hbd + 64) u)) (ob := fun (u : Nat → Nat) => q_OB G AA c0 (hbd + 64) u q_hT) hx hb hr hlk hS (chM M (.inr (197 + (m1b w), kv))) (q_OB_le hO (by omega)) ⟨rfl, q_iv_le (ch_iv hv (oG_s (m1b_lt w) hkv1 hkv2 hkv3) (by omega) (fun c hc => by omega)) (by omega)⟩ dL_does_386
      · skip
        refine lv_bipush (v := (-5)) hx hb dL_does_360 (by decide +kernel) ?_
        refine lv_goto (tgt := 367) hx hb dL_does_362 (by decide) ?_
        refine lv_icmp_ne (tgt := 385) hx hb dL_does_367 (by decide) (fun h67 => ?_) (fun h67 => ?_)
        · exact absurd (by first | exact ch_e (by assumption) | exact ch_n (by assumption)) h67
        · skip
          refine lv_aload_n hx hb dL_does_370 rfl (lv_at hl 7 rfl) ?_
          refine lv_iload hx hb dL_does_371 (lv_at hl 2 rfl) ?_
          refine k_total ⟨hx, hb, hml, hown, hts⟩ (cwV 1 hts gL_does_X5_total rfl rfl rfl (by decide +kernel) ⟨Nat.le_of_ble_eq_true rfl, Nat.le_of_ble_eq_true rfl⟩) hK hNW hAA (fun q => by have h := (nI_eq (by have := m1b_lt w; omega) (by decide)).mp q; have := m1b_lt w; omega) hO hS hl.1 (Nat.le_of_ble_eq_true rfl) dL_does_373 ⟨Nat.zero_le _, Nat.zero_le _⟩ (fun H locs hO hS => ?_)
          have hO : q_OB G AA c0 hbd (chM M (.inr (197 + (m1b w), kv))) q_hT _ := hO
          refine nr_top (y := nI ((chM M (.inr (197 + (m1b w), kv))) (197 + (m1b w)))) (to_s (by first | omega | exact m1b_lt _)) ?_
          refine nr_top (y := nI kv) (congrArg nI (ch_at _ _ _)) ?_
          refine lv_iload hx hb dL_does_376 (lv_at hl 1 rfl) ?_
          refine br_ine (tgt := 385) hx hb dL_does_378 (by decide) (by omega) (by omega) (fun h68 => ?_) (fun h68 => ?_)
          · exact absurd rfl h68
          · skip
            refine nr_const (v := 1) hx hb dL_does_381 rfl ?_
            refine lv_goto (tgt := 386) hx hb dL_does_382 (by decide) ?_
            exact obretz (post := fun (r : Int32) (u : Nat → Nat) => r = nI 1 ∧ (q_iv (hbd + 64) u)) (ob := fun (u : Nat → Nat) => q_OB G AA c0 (hbd + 64) u q_hT) hx hb hr hlk hS (chM M (.inr (197 + (m1b w), kv))) (q_OB_le hO (by omega)) ⟨rfl, q_iv_le (ch_iv hv (oG_s (m1b_lt w) hkv1 hkv2 hkv3) (by omega) (fun c hc => by omega)) (by omega)⟩ dL_does_386
  · refine nr_top (congrArg nI h1) ?_
    refine lv_tableIn (off := 343) (tgt := 387) hx hb dL_does_44 (by decide) (by decide) rfl (by decide) ?_
    refine lv_aload_n hx hb dL_does_387 rfl (lv_at hl 4 rfl) ?_
    refine lv_iload_n hx hb dL_does_388 rfl (lv_at hl 3 rfl) ?_
    refine nr_const (v := 4) hx hb dL_does_389 rfl ?_
    refine k_plot ⟨hx, hb, hml, hown, hts⟩ (cwV 2 hts gL_does_X5_plot rfl rfl rfl (by decide +kernel) ⟨Nat.le_of_ble_eq_true rfl, Nat.le_of_ble_eq_true rfl⟩) hK hNW hAA  hO hS hl.1 (Nat.le_of_ble_eq_true rfl) dL_does_390 ⟨Nat.zero_le _, Nat.zero_le _⟩ ?_
    refine nr_top (y := nI (ow M 0 kp)) (pl_o (by omega)) ?_
    refine lv_istore (lv' := [(13, .int (nI (ow M 0 kp))), (6, .int (nI kd)), (5, .int (nI ko)), (4, .int (nI kc)), (3, .int (nI kp)), (0, .ref c0), (1, .int v), (2, .int w)]) hx hb dL_does_393 hl (by decide) rfl (fun ls hl => ?_)
    refine lv_iload_n hx hb dL_does_395 rfl (lv_at hl 7 rfl) ?_
    refine nr_bi (v := 8) hx hb dL_does_396 (by decide +kernel) ?_
    refine rcS (As := [.int w, .int (nI 8)]) ⟨hx, hb, hml, hown, hts⟩ (c_L_low l w 8 (by omega) (by omega)) (va_cwS 2 hts gL_does_L_low rfl rfl rfl (by decide +kernel) ⟨Nat.le_of_ble_eq_true rfl, Nat.le_of_ble_eq_true rfl⟩) rfl hl.1 rfl (Nat.le_of_ble_eq_true rfl) dL_does_398 ⟨Nat.zero_le _, Nat.zero_le _⟩ ?_
    obtain ⟨kt, hkt, epkt⟩ : ∃ a, a < 8 ∧ nI (lo w 8) = nI a := ⟨_, lo_lt (by decide), rfl⟩
    refine nr_top epkt ?_
    refine lv_istore (lv' := [(14, .int (nI kt)), (13, .int (nI (ow M 0 kp))), (6, .int (nI kd)), (5, .int (nI ko)), (4, .int (nI kc)), (3, .int (nI kp)), (0, .ref c0), (1, .int v), (2, .int w)]) hx hb dL_does_401 hl (by decide) rfl (fun ls hl => ?_)
    refine lv_aload_n hx hb dL_does_403 rfl (lv_at hl 6 rfl) ?_
    refine lv_iload_n hx hb dL_does_404 rfl (lv_at hl 5 rfl) ?_
    refine lv_iload hx hb dL_does_405 (lv_at hl 0 rfl) ?_
    refine k_give ⟨hx, hb, hml, hown, hts⟩ (cwV 2 hts gL_does_X5_give rfl rfl rfl (by decide +kernel) ⟨Nat.le_of_ble_eq_true rfl, Nat.le_of_ble_eq_true rfl⟩) hK hNW hAA (pV_y hkp hkt) (oG_v hkp hkt) hv hO hS hl.1 (Nat.le_of_ble_eq_true rfl) dL_does_407 ⟨Nat.zero_le _, Nat.zero_le _⟩ (fun H locs hO hS => ?_)
    have hO : q_OB G AA c0 hbd (chM M (.inr (96 + kp, kt))) q_hT _ := hO
    have hb1 := ok_ow h0k kp hkp
    refine lv_iload hx hb dL_does_410 (lv_at hl 1 rfl) ?_
    refine lv_iload hx hb dL_does_412 (lv_at hl 0 rfl) ?_
    refine br_ine (tgt := 422) hx hb dL_does_414 (by decide) (by omega) (by omega) (fun h69 => ?_) (fun h69 => ?_)
    · skip
      refine lv_iload hx hb dL_does_422 (lv_at hl 1 rfl) ?_
      refine lv_icmp_ne (tgt := 442) hx hb dL_does_424 (by decide) (fun h70 => ?_) (fun h70 => ?_)
      · exact absurd (by first | exact ch_e (by assumption) | exact ch_n (by assumption)) h70
      · skip
        refine lv_aload_n hx hb dL_does_427 rfl (lv_at hl 6 rfl) ?_
        refine lv_iload_n hx hb dL_does_428 rfl (lv_at hl 5 rfl) ?_
        refine nr_const (v := 4) hx hb dL_does_429 rfl ?_
        refine k_plot ⟨hx, hb, hml, hown, hts⟩ (cwV 2 hts gL_does_X5_plot rfl rfl rfl (by decide +kernel) ⟨Nat.le_of_ble_eq_true rfl, Nat.le_of_ble_eq_true rfl⟩) hK hNW hAA  hO hS hl.1 (Nat.le_of_ble_eq_true rfl) dL_does_430 ⟨Nat.zero_le _, Nat.zero_le _⟩ ?_
        refine nr_top (y := nI (ow (chM M (.inr (96 + kp, kt))) 0 kp)) (pl_o (by omega)) ?_
        refine nr_top (y := nI kt) (congrArg nI (ch_ow _ _ _)) ?_
        refine lv_iload hx hb dL_does_433 (lv_at hl 0 rfl) ?_
        refine br_ine (tgt := 442) hx hb dL_does_435 (by decide) (by omega) (by omega) (fun h71 => ?_) (fun h71 => ?_)
        · exact absurd rfl h71
        · skip
          refine nr_const (v := 1) hx hb dL_does_438 rfl ?_
          refine lv_goto (tgt := 443) hx hb dL_does_439 (by decide) ?_
          exact obretz (post := fun (r : Int32) (u : Nat → Nat) => r = nI 1 ∧ (q_iv (hbd + 64) u)) (ob := fun (u : Nat → Nat) => q_OB G AA c0 (hbd + 64) u q_hT) hx hb hr hlk hS (chM M (.inr (96 + kp, kt))) (q_OB_le hO (by omega)) ⟨rfl, q_iv_le (ch_iv hv (oG_v hkp hkt) (by omega) (fun c hc => by omega)) (by omega)⟩ dL_does_443
    · skip
      refine lv_bipush (v := (-5)) hx hb dL_does_417 (by decide +kernel) ?_
      refine lv_goto (tgt := 424) hx hb dL_does_419 (by decide) ?_
      refine lv_icmp_ne (tgt := 442) hx hb dL_does_424 (by decide) (fun h72 => ?_) (fun h72 => ?_)
      · exact absurd (by first | exact ch_e (by assumption) | exact ch_n (by assumption)) h72
      · skip
        refine lv_aload_n hx hb dL_does_427 rfl (lv_at hl 6 rfl) ?_
        refine lv_iload_n hx hb dL_does_428 rfl (lv_at hl 5 rfl) ?_
        refine nr_const (v := 4) hx hb dL_does_429 rfl ?_
        refine k_plot ⟨hx, hb, hml, hown, hts⟩ (cwV 2 hts gL_does_X5_plot rfl rfl rfl (by decide +kernel) ⟨Nat.le_of_ble_eq_true rfl, Nat.le_of_ble_eq_true rfl⟩) hK hNW hAA  hO hS hl.1 (Nat.le_of_ble_eq_true rfl) dL_does_430 ⟨Nat.zero_le _, Nat.zero_le _⟩ ?_
        refine nr_top (y := nI (ow (chM M (.inr (96 + kp, kt))) 0 kp)) (pl_o (by omega)) ?_
        refine nr_top (y := nI kt) (congrArg nI (ch_ow _ _ _)) ?_
        refine lv_iload hx hb dL_does_433 (lv_at hl 0 rfl) ?_
        refine br_ine (tgt := 442) hx hb dL_does_435 (by decide) (by omega) (by omega) (fun h73 => ?_) (fun h73 => ?_)
        · exact absurd rfl h73
        · skip
          refine nr_const (v := 1) hx hb dL_does_438 rfl ?_
          refine lv_goto (tgt := 443) hx hb dL_does_439 (by decide) ?_
          exact obretz (post := fun (r : Int32) (u : Nat → Nat) => r = nI 1 ∧ (q_iv (hbd + 64) u)) (ob := fun (u : Nat → Nat) => q_OB G AA c0 (hbd + 64) u q_hT) hx hb hr hlk hS (chM M (.inr (96 + kp, kt))) (q_OB_le hO (by omega)) ⟨rfl, q_iv_le (ch_iv hv (oG_v hkp hkt) (by omega) (fun c hc => by omega)) (by omega)⟩ dL_does_443
  · refine nr_top (congrArg nI h1) ?_
    refine lv_tableIn (off := 400) (tgt := 444) hx hb dL_does_44 (by decide) (by decide) rfl (by decide) ?_
    refine lv_iload hx hb dL_does_444 (lv_at hl 2 rfl) ?_
    refine lv_iload hx hb dL_does_446 (lv_at hl 1 rfl) ?_
    refine br_ine (tgt := 455) hx hb dL_does_448 (by decide) (by omega) (by omega) (fun h74 => ?_) (fun h74 => ?_)
    · skip
      refine lv_aload_n hx hb dL_does_455 rfl (lv_at hl 4 rfl) ?_
      refine lv_iload hx hb dL_does_456 (lv_at hl 2 rfl) ?_
      refine lv_iload hx hb dL_does_458 (lv_at hl 1 rfl) ?_
      refine nr_const (v := 4) hx hb dL_does_460 rfl ?_
      refine k_pair ⟨hx, hb, hml, hown, hts⟩ (cwV 3 hts gL_does_X5_pair rfl rfl rfl (by decide +kernel) ⟨Nat.le_of_ble_eq_true rfl, Nat.le_of_ble_eq_true rfl⟩) hK hNW hAA  hO hS hl.1 (Nat.le_of_ble_eq_true rfl) dL_does_461 ⟨Nat.zero_le _, Nat.zero_le _⟩ (fun H locs hO hS => ?_)
      have hO : q_OB G AA c0 hbd M q_hT _ := hO
      refine nr_top (y := nI (rs M (ow M 0) kc ko)) (pa_4 (by omega) (by omega) (by omega)) ?_
      refine lv_istore (lv' := [(15, .int (nI (rs M (ow M 0) kc ko))), (6, .int (nI kd)), (5, .int (nI ko)), (4, .int (nI kc)), (3, .int (nI kp)), (0, .ref c0), (1, .int v), (2, .int w)]) hx hb dL_does_464 hl (by decide) rfl (fun ls hl => ?_)
      by_cases hrz : rs M (ow M 0) kc ko = 0
      · skip
        have hrs := rs_lt M (ow M 0) kc ko
        have hes : es M (swO (ow M 0) kc ko) 127 127 ≤ 723975 := es_le h0k
        refine lv_aload_n hx hb dL_does_466 rfl (lv_at hl 5 rfl) ?_
        refine lv_iload hx hb dL_does_467 (lv_at hl 3 rfl) ?_
        refine lv_iload hx hb dL_does_469 (lv_at hl 2 rfl) ?_
        refine k_trade ⟨hx, hb, hml, hown, hts⟩ (cwV 2 hts gL_does_X5_trade rfl rfl rfl (by decide +kernel) ⟨Nat.le_of_ble_eq_true rfl, Nat.le_of_ble_eq_true rfl⟩) hK hNW hAA hkc hko (by assumption) hrz hv hO hS hl.1 (Nat.le_of_ble_eq_true rfl) dL_does_471 ⟨Nat.zero_le _, Nat.zero_le _⟩ (fun H locs hO hS => ?_)
        have hO : q_OB G AA c0 hbd (tM M kc ko) (q_hM M) _ := hO
        refine lv_istore (lv' := [(16, .int (nI (es M (swO (ow M 0) kc ko) 127 127))), (15, .int (nI (rs M (ow M 0) kc ko))), (6, .int (nI kd)), (5, .int (nI ko)), (4, .int (nI kc)), (3, .int (nI kp)), (0, .ref c0), (1, .int v), (2, .int w)]) hx hb dL_does_474 hl (by decide) rfl (fun ls hl => ?_)
        refine lv_iload hx hb dL_does_476 (lv_at hl 4 rfl) ?_
        refine lv_iload hx hb dL_does_478 (lv_at hl 3 rfl) ?_
        refine br_ine (tgt := 498) hx hb dL_does_480 (by decide) (by omega) (by omega) (fun h75 => ?_) (fun h75 => ?_)
        · skip
          refine lv_iload hx hb dL_does_498 (lv_at hl 1 rfl) ?_
          refine br_le0 (tgt := 521) hx hb dL_does_500 (by decide) (by omega) (fun h76 => ?_) (fun h76 => ?_)
          · skip
            refine lv_iload hx hb dL_does_521 (lv_at hl 0 rfl) ?_
            refine lv_aload_n hx hb dL_does_523 rfl (lv_at hl 6 rfl) ?_
            refine nr_const (v := 3) hx hb dL_does_524 rfl ?_
            refine k_total ⟨hx, hb, hml, hown, hts⟩ (cwV 1 hts gL_does_X5_total rfl rfl rfl (by decide +kernel) ⟨Nat.le_of_ble_eq_true rfl, Nat.le_of_ble_eq_true rfl⟩) hK hNW hAA (by decide) hO hS hl.1 (Nat.le_of_ble_eq_true rfl) dL_does_525 ⟨Nat.zero_le _, Nat.zero_le _⟩ (fun H locs hO hS => ?_)
            have hO : q_OB G AA c0 hbd (tM M kc ko) (q_hM M) _ := hO
            refine nr_top (y := nI (es (tM M kc ko) (ow (tM M kc ko) 0) 127 127)) (to_3) ?_
            refine nr_top (y := nI (es M (swO (ow M 0) kc ko) 127 127)) (congrArg nI tM_es) ?_
            refine br_ine (tgt := 535) hx hb dL_does_528 (by decide) (by omega) (by omega) (fun h77 => ?_) (fun h77 => ?_)
            · exact absurd rfl h77
            · skip
              refine nr_const (v := 1) hx hb dL_does_531 rfl ?_
              refine lv_goto (tgt := 536) hx hb dL_does_532 (by decide) ?_
              exact obretz (post := fun (r : Int32) (u : Nat → Nat) => r = nI 1 ∧ (q_iv (hbd + 64) u)) (ob := fun (u : Nat → Nat) => q_OB G AA c0 (hbd + 64) u q_hT) hx hb hr hlk hS (tM M kc ko) (q_OB_T (q_OB_le hO (by omega))) ⟨rfl, q_iv_le (tM_iv hv hkc hko) (by omega)⟩ dL_does_536
          · exact absurd hrz h76
        · exact absurd h75 h74
      · skip
        have hrs := rs_lt M (ow M 0) kc ko
        have hes : es M (swO (ow M 0) kc ko) 127 127 ≤ 723975 := es_le h0k
        refine lv_aload_n hx hb dL_does_466 rfl (lv_at hl 5 rfl) ?_
        refine lv_iload hx hb dL_does_467 (lv_at hl 3 rfl) ?_
        refine lv_iload hx hb dL_does_469 (lv_at hl 2 rfl) ?_
        refine k_tradeN ⟨hx, hb, hml, hown, hts⟩ (cwV 2 hts gL_does_X5_trade rfl rfl rfl (by decide +kernel) ⟨Nat.le_of_ble_eq_true rfl, Nat.le_of_ble_eq_true rfl⟩) hK hNW hAA (at_x2 hkc hko hrz) (fun k => (at_n hkc hko (by assumption) hrz k).1) (fun k => (at_n hkc hko (by assumption) hrz k).2) hO hS hl.1 (Nat.le_of_ble_eq_true rfl) dL_does_471 ⟨Nat.zero_le _, Nat.zero_le _⟩ (fun H locs hO hS => ?_)
        have hO : q_OB G AA c0 hbd M q_hT _ := hO
        refine lv_istore (lv' := [(16, .int ((-10) - (nI (rs M (ow M 0) kc ko)))), (15, .int (nI (rs M (ow M 0) kc ko))), (6, .int (nI kd)), (5, .int (nI ko)), (4, .int (nI kc)), (3, .int (nI kp)), (0, .ref c0), (1, .int v), (2, .int w)]) hx hb dL_does_474 hl (by decide) rfl (fun ls hl => ?_)
        refine lv_iload hx hb dL_does_476 (lv_at hl 4 rfl) ?_
        refine lv_iload hx hb dL_does_478 (lv_at hl 3 rfl) ?_
        refine br_ine (tgt := 498) hx hb dL_does_480 (by decide) (by omega) (by omega) (fun h78 => ?_) (fun h78 => ?_)
        · skip
          refine lv_iload hx hb dL_does_498 (lv_at hl 1 rfl) ?_
          refine br_le0 (tgt := 521) hx hb dL_does_500 (by decide) (by omega) (fun h79 => ?_) (fun h79 => ?_)
          · exact absurd h79 hrz
          · skip
            refine lv_iload hx hb dL_does_503 (lv_at hl 0 rfl) ?_
            refine lv_bipush (v := (-10)) hx hb dL_does_505 (by decide +kernel) ?_
            refine lv_iload hx hb dL_does_507 (lv_at hl 1 rfl) ?_
            refine lv_isub hx hb dL_does_509 ?_
            refine lv_icmp_ne (tgt := 517) hx hb dL_does_510 (by decide) (fun h80 => ?_) (fun h80 => ?_)
            · exact absurd rfl h80
            · skip
              refine nr_const (v := 1) hx hb dL_does_513 rfl ?_
              refine lv_goto (tgt := 536) hx hb dL_does_514 (by decide) ?_
              exact obretz (post := fun (r : Int32) (u : Nat → Nat) => r = nI 1 ∧ (q_iv (hbd + 64) u)) (ob := fun (u : Nat → Nat) => q_OB G AA c0 (hbd + 64) u q_hT) hx hb hr hlk hS (M) (q_OB_le hO (by omega)) ⟨rfl, q_iv_le hv (by omega)⟩ dL_does_536
        · exact absurd h78 h74
    · skip
      refine nr_const (v := 0) hx hb dL_does_451 rfl ?_
      refine lv_goto (tgt := 464) hx hb dL_does_452 (by decide) ?_
      refine lv_istore (lv' := [(15, .int (nI 0)), (6, .int (nI kd)), (5, .int (nI ko)), (4, .int (nI kc)), (3, .int (nI kp)), (0, .ref c0), (1, .int v), (2, .int w)]) hx hb dL_does_464 hl (by decide) rfl (fun ls hl => ?_)
      have hrs := rs_lt M (ow M 0) kc ko
      have hes : es M (swO (ow M 0) kc ko) 127 127 ≤ 723975 := es_le h0k
      refine lv_aload_n hx hb dL_does_466 rfl (lv_at hl 5 rfl) ?_
      refine lv_iload hx hb dL_does_467 (lv_at hl 3 rfl) ?_
      refine lv_iload hx hb dL_does_469 (lv_at hl 2 rfl) ?_
      refine k_tradeN ⟨hx, hb, hml, hown, hts⟩ (cwV 2 hts gL_does_X5_trade rfl rfl rfl (by decide +kernel) ⟨Nat.le_of_ble_eq_true rfl, Nat.le_of_ble_eq_true rfl⟩) hK hNW hAA (at_x1 (by assumption)) (fun k => (at_e hkc (by assumption) k).1) (fun k => (at_e hkc (by assumption) k).2) hO hS hl.1 (Nat.le_of_ble_eq_true rfl) dL_does_471 ⟨Nat.zero_le _, Nat.zero_le _⟩ (fun H locs hO hS => ?_)
      have hO : q_OB G AA c0 hbd M q_hT _ := hO
      refine lv_istore (lv' := [(16, .int (-2)), (15, .int (nI 0)), (6, .int (nI kd)), (5, .int (nI ko)), (4, .int (nI kc)), (3, .int (nI kp)), (0, .ref c0), (1, .int v), (2, .int w)]) hx hb dL_does_474 hl (by decide) rfl (fun ls hl => ?_)
      refine lv_iload hx hb dL_does_476 (lv_at hl 4 rfl) ?_
      refine lv_iload hx hb dL_does_478 (lv_at hl 3 rfl) ?_
      refine br_ine (tgt := 498) hx hb dL_does_480 (by decide) (by omega) (by omega) (fun h81 => ?_) (fun h81 => ?_)
      · exact absurd h74 h81
      · skip
        refine lv_iload hx hb dL_does_483 (lv_at hl 0 rfl) ?_
        refine lv_bipush (v := (-2)) hx hb dL_does_485 (by decide +kernel) ?_
        refine lv_icmp_ne (tgt := 494) hx hb dL_does_487 (by decide) (fun h82 => ?_) (fun h82 => ?_)
        · exact absurd rfl h82
        · skip
          refine nr_const (v := 1) hx hb dL_does_490 rfl ?_
          refine lv_goto (tgt := 536) hx hb dL_does_491 (by decide) ?_
          exact obretz (post := fun (r : Int32) (u : Nat → Nat) => r = nI 1 ∧ (q_iv (hbd + 64) u)) (ob := fun (u : Nat → Nat) => q_OB G AA c0 (hbd + 64) u q_hT) hx hb hr hlk hS (M) (q_OB_le hO (by omega)) ⟨rfl, q_iv_le hv (by omega)⟩ dL_does_536
  · refine nr_top (congrArg nI h1) ?_
    refine lv_tableIn (off := 493) (tgt := 537) hx hb dL_does_44 (by decide) (by decide) rfl (by decide) ?_
    refine lv_aload_n hx hb dL_does_537 rfl (lv_at hl 4 rfl) ?_
    refine wcO (As := [.ref c0]) (ob0 := q_OB G AA c0 hbd M q_hT) (ob := fun (u : Nat → Nat) => q_OB G AA c0 (hbd + 64) u q_hT) ⟨hx, hb, hml, hown, hts⟩ (m_isTraded l G AA c0 hbd M   hv hnb) (va_cwS 1 hts gL_does_L_isTraded rfl rfl rfl (by decide +kernel) ⟨Nat.le_of_ble_eq_true rfl, Nat.le_of_ble_eq_true rfl⟩) hK hNW hAA hO hS rfl hl.1 rfl (Nat.le_of_ble_eq_true rfl) dL_does_538 ⟨Nat.zero_le _, Nat.zero_le _⟩ (fun rr u83 H locs hw hO hS => ?_)
    obtain ⟨er, hw⟩ := hw
    subst er
    have hO : q_OB G AA c0 (hbd + 64) u83 q_hT _ := hO
    exact obretz (post := fun (r : Int32) (u : Nat → Nat) => r = nI 1 ∧ (q_iv (hbd + 64) u)) (ob := fun (u : Nat → Nat) => q_OB G AA c0 (hbd + 64) u q_hT) hx hb hr hlk hS (u83) (hO) ⟨rfl, hw⟩ dL_does_541
  · refine lv_tableOut (tgt := 542) hx hb dL_does_44 (by rw [nI_toInt (by omega)]; omega) (by decide) ?_
    refine lv_aload_n hx hb dL_does_542 rfl (lv_at hl 4 rfl) ?_
    refine nr_const (v := 1) hx hb dL_does_543 rfl ?_
    refine lv_iload_n hx hb dL_does_544 rfl (lv_at hl 6 rfl) ?_
    refine nr_bi (v := 127) hx hb dL_does_545 (by decide +kernel) ?_
    refine rcS (As := [.int w, .int (nI 127)]) ⟨hx, hb, hml, hown, hts⟩ (c_L_low l w 127 (by omega) (by omega)) (va_cwS 2 hts gL_does_L_low rfl rfl rfl (by decide +kernel) ⟨Nat.le_of_ble_eq_true rfl, Nat.le_of_ble_eq_true rfl⟩) rfl hl.1 rfl (Nat.le_of_ble_eq_true rfl) dL_does_547 ⟨Nat.zero_le _, Nat.zero_le _⟩ ?_
    obtain ⟨ka, hka, epka⟩ : ∃ a, a < 127 ∧ nI (lo w 127) = nI a := ⟨_, lo_lt (by decide), rfl⟩
    refine nr_top epka ?_
    refine nr_add hx hb dL_does_550 ?_
    refine wcO (As := [.ref c0, .int (nI (1 + ka))]) (ob0 := q_OB G AA c0 hbd M q_hT) (ob := fun (u : Nat → Nat) => q_OB G AA c0 (hbd + 64) u q_hT) ⟨hx, hb, hml, hown, hts⟩ (m_isDivided l G AA c0 hbd M  (1 + ka) (by omega) (by omega) hv hnb) (va_cwS 2 hts gL_does_L_isDivided rfl rfl rfl (by decide +kernel) ⟨Nat.le_of_ble_eq_true rfl, Nat.le_of_ble_eq_true rfl⟩) hK hNW hAA hO hS rfl hl.1 rfl (Nat.le_of_ble_eq_true rfl) dL_does_551 ⟨Nat.zero_le _, Nat.zero_le _⟩ (fun rr u84 H locs hw hO hS => ?_)
    obtain ⟨er, hw⟩ := hw
    subst er
    have hO : q_OB G AA c0 (hbd + 64) u84 q_hT _ := hO
    exact obretz (post := fun (r : Int32) (u : Nat → Nat) => r = nI 1 ∧ (q_iv (hbd + 64) u)) (ob := fun (u : Nat → Nat) => q_OB G AA c0 (hbd + 64) u q_hT) hx hb hr hlk hS (u84) (hO) ⟨rfl, hw⟩ dL_does_554)
