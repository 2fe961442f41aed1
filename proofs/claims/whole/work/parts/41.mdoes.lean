set_option maxHeartbeats 4000000 in
set_option maxRecDepth 100000 in
theorem c_X6_setsFour (l : Launch) (G : gG) (z0 : Nat) (z1 : Nat) (z4 : Nat) (fs : List Value) (ln : Nat) (Tx : Nat → Nat) (M : Nat → Nat) (a0 : Nat) (j0 : Nat) (hf0 : fs[0]? = some (.ref z1)) (hf5 : fs[5]? = some (.ref z4)) (hf6 : fs[6]? = some (.int (nI ln))) (hln : ln ≤ 60) (hT : ∀ j, j < ln → Tx j < 65536) (ha4 : a0 ≤ 400) (hj9 : j0 ≤ 900) (hdg : ∀ k, k < 4 → ¬ dgt Tx ln (j0 + k) = 10) (sz : Nat) : Met l yX6_setsFour wsX6_setsFour ({ frames := 2, cells := 0, slots := 0, locals := 43 } : Room) (WR G [(z0, .inr (6, fs)), (z1, .inl (G.2 0, 404, .inl (nA M))), (z4, .inl (G.2 0, 60, .inl (nA Tx)))] sz [.ref z0, .int (nI a0), .int (nI j0)]) (va_Qv (fun _ : Unit => True) (WB G (va_A [(z0, .inr (6, fs)), (z1, .inl (G.2 0, 404, .inl (nA M))), (z4, .inl (G.2 0, 60, .inl (nA Tx)))] sz) (fun _ : Unit => [(z0, .inr (6, fs)), (z1, .inl (G.2 0, 404, .inl (nA (cpA M (dgF Tx ln j0) a0 4)))), (z4, .inl (G.2 0, 60, .inl (nA Tx)))])) (va_A [(z0, .inr (6, fs)), (z1, .inl (G.2 0, 404, .inl (nA M))), (z4, .inl (G.2 0, 60, .inl (nA Tx)))] sz)) 0 0 (va_A [(z0, .inr (6, fs)), (z1, .inl (G.2 0, 404, .inl (nA M))), (z4, .inl (G.2 0, 60, .inl (nA Tx)))] sz) := wrM (Qf := fun AA => va_Qv (fun _ : Unit => True) (WB G AA (fun _ : Unit => [(z0, .inr (6, fs)), (z1, .inl (G.2 0, 404, .inl (nA (cpA M (dgF Tx ln j0) a0 4)))), (z4, .inl (G.2 0, 60, .inl (nA Tx)))])) AA) (C := RX6) rfl (by decide) rfl (Nat.le_of_ble_eq_true rfl) (fun pX eX sX mX bX meX cX ls AA hx hb hr hts hown hlk hml hin hP hK hD hAA hS hl => by
  have hl : lv_has ls 4 [(0, .ref z0), (1, .int (nI a0)), (2, .int (nI j0))] := hl
  have hF6 : ∀ w ∈ wsX60, w ∈ wsX6_setsFour := fun _ h => (List.mem_cons_of_mem _ (List.mem_append_right _ h))
  refine nr_const (v := 0) hx hb dX6_setsFour_0 rfl ?_
  refine lv_istore_n (lv' := [(3, .int (nI 0)), (0, .ref z0), (1, .int (nI a0)), (2, .int (nI j0))]) hx hb dX6_setsFour_1 rfl hl (by decide) rfl (fun ls hl => ?_)
  rw [← cpA_0 M (dgF Tx ln j0) a0] at hP hD
  refine loop_w (T := Nat) (nL := 4) (fun i => i ≤ 4) (fun i => 4 - i) (fun i => [(0, .ref z0), (1, .int (nI a0)), (2, .int (nI j0)), (3, .int (nI i))]) (fun i => [(z0, .inr (6, fs)), (z1, .inl (G.2 0, 404, .inl (nA (cpA M (dgF Tx ln j0) a0 i)))), (z4, .inl (G.2 0, 60, .inl (nA Tx)))]) ?_ 0 (lv_sub hl [1, 2, 3, 0] rfl) hP hD hS (by omega)
  intro i ls H locs hl hP hD hS hi2 ih1
  have hi2_0 := hi2
  have hi2_0 : i ≤ 4 := hi2_0
  have hl : lv_has ls 4 [(0, .ref z0), (1, .int (nI a0)), (2, .int (nI j0)), (3, .int (nI i))] := hl
  have hP : va_P G.1 vwCl [(z0, .inr (6, fs)), (z1, .inl (G.2 0, 404, .inl (nA (cpA M (dgF Tx ln j0) a0 i)))), (z4, .inl (G.2 0, 60, .inl (nA Tx)))] _ := hP
  have hD : va_D AA [(z0, .inr (6, fs)), (z1, .inl (G.2 0, 404, .inl (nA (cpA M (dgF Tx ln j0) a0 i)))), (z4, .inl (G.2 0, 60, .inl (nA Tx)))] := hD
  refine lv_iload_n hx hb dX6_setsFour_2 rfl (lv_at hl 3 rfl) ?_
  refine nr_const (v := 4) hx hb dX6_setsFour_3 rfl ?_
  refine br_ige (tgt := 28) hx hb dX6_setsFour_4 (by decide) (by omega) (by decide) (fun h3 => ?_) (fun h3 => ?_)
  · skip
    have e2 : i = 4 := (by omega)
    subst e2
    exact wretv hx hb hr hlk hK hS (()) hP hD (trivial) dX6_setsFour_28
  · skip
    refine lv_aload_n hx hb dX6_setsFour_7 rfl (lv_at hl 0 rfl) ?_
    refine va_get (D := G.1) (ci := 6) (v := .ref z1) (C := RX6) (T := TX6) (N := 9) hx hb hts hF6 hown hK hP 0 rfl rfl 0 (by decide) (hts (.fieldLink RX6 7 "CousinSharesModel" "s" "[I") (List.mem_of_getElem? (i := 1) rfl)) (fun _ h9 => h9) hf0 dX6_setsFour_8 ?_
    refine lv_iload_n hx hb dX6_setsFour_11 rfl (lv_at hl 1 rfl) ?_
    refine lv_iload_n hx hb dX6_setsFour_12 rfl (lv_at hl 3 rfl) ?_
    refine nr_add hx hb dX6_setsFour_13 ?_
    refine lv_aload_n hx hb dX6_setsFour_14 rfl (lv_at hl 0 rfl) ?_
    refine lv_iload_n hx hb dX6_setsFour_15 rfl (lv_at hl 2 rfl) ?_
    refine lv_iload_n hx hb dX6_setsFour_16 rfl (lv_at hl 3 rfl) ?_
    refine nr_add hx hb dX6_setsFour_17 ?_
    refine rcV (As := [.int (nI (j0 + i))]) (wl := [(z0, .inr (6, fs)), (z4, .inl (G.2 0, 60, .inl (nA Tx)))]) ⟨hx, hb, hml, hown, hts⟩ (c_X6_digit l G z0 z4 fs ln Tx (j0 + i) hf5 hf6 (by omega) hT (by omega)) (cwV 1 hts gX6_setsFour_X6_digit rfl rfl rfl (by decide +kernel) ⟨Nat.le_of_ble_eq_true rfl, Nat.le_of_ble_eq_true rfl⟩) hK (hP.sub [0, 2] rfl) 6 0 rfl rfl rfl hl.1 rfl (Nat.le_of_ble_eq_true rfl) dX6_setsFour_18 ⟨Nat.zero_le _, Nat.zero_le _⟩ ?_
    refine nr_top (y := nI (dgF Tx ln j0 i)) (dgI_p (hdg i (by omega))) ?_
    refine nr_ast (ws' := [(z0, .inr (6, fs)), (z1, .inl (G.2 0, 404, .inl (nA (va_up (cpA M (dgF Tx ln j0) a0 i) (a0 + i) (dgF Tx ln j0 i))))), (z4, .inl (G.2 0, 60, .inl (nA Tx)))]) hx hb hK hP hD hS 1 rfl (by omega) (by decide) dX6_setsFour_21 rfl (fun H locs hP hD hS => ?_)
    refine nr_inc (d := 1) (v := i + 1) (lv' := [(3, .int (nI (i + 1))), (0, .ref z0), (1, .int (nI a0)), (2, .int (nI j0))]) hx hb dX6_setsFour_22 hl (k := 3) rfl rfl (by decide) rfl (fun ls hl => ?_)
    refine lv_goto (tgt := 2) hx hb dX6_setsFour_25 (by decide) ?_
    rw [cpA_s] at hP hD
    exact ih1 (i + 1) ls H locs (lv_sub hl [1, 2, 3, 0] rfl) hP hD hS (by omega) (by omega))

set_option maxHeartbeats 4000000 in
set_option maxRecDepth 100000 in
theorem c_X6_does (l : Launch) (G : gG) (z0 : Nat) (z1 : Nat) (z2 : Nat) (kn : Nat) (z3 : Nat) (ik : Nat) (z4 : Nat) (ln : Nat) (z5 : Nat) (lo : Nat) (M : Nat → Nat) (Tx : Nat → Nat) (Od : Nat → Nat) (i : Nat) (hln : ln ≤ 60) (hT : ∀ j, j < ln → Tx j < 65536) (h0 : ok M) (hi7 : i ≤ 700) (ho : (oE Tx ln i).1 = true) (sz : Nat) : Met l yX6_does wsX6_does ({ frames := 6, cells := 0, slots := 0, locals := 138 } : Room) (WR G [(z0, .inr (6, [.ref z1, .ref z2, .int (nI kn), .ref z3, .int (nI ik), .ref z4, .int (nI ln), .ref z5, .int (nI lo)])), (z1, .inl (G.2 0, 404, .inl (nA M))), (z4, .inl (G.2 0, 60, .inl (nA Tx))), (z5, .inl (G.2 0, 7, .inl (nA Od)))] sz [.ref z0, .int (nI i)]) (va_Qv (fun u : Nat × (Nat → Nat) => match u with | ⟨l1, o1⟩ => True) (WB G (va_A [(z0, .inr (6, [.ref z1, .ref z2, .int (nI kn), .ref z3, .int (nI ik), .ref z4, .int (nI ln), .ref z5, .int (nI lo)])), (z1, .inl (G.2 0, 404, .inl (nA M))), (z4, .inl (G.2 0, 60, .inl (nA Tx))), (z5, .inl (G.2 0, 7, .inl (nA Od)))] sz) (fun u : Nat × (Nat → Nat) => match u with | ⟨l1, o1⟩ => [(z0, .inr (6, [.ref z1, .ref z2, .int (nI kn), .ref z3, .int (nI ik), .ref z4, .int (nI ln), .ref z5, .int (nI l1)])), (z1, .inl (G.2 0, 404, .inl (nA (aDo M Tx ln i)))), (z4, .inl (G.2 0, 60, .inl (nA Tx))), (z5, .inl (G.2 0, 7, .inl (nA o1)))])) (va_A [(z0, .inr (6, [.ref z1, .ref z2, .int (nI kn), .ref z3, .int (nI ik), .ref z4, .int (nI ln), .ref z5, .int (nI lo)])), (z1, .inl (G.2 0, 404, .inl (nA M))), (z4, .inl (G.2 0, 60, .inl (nA Tx))), (z5, .inl (G.2 0, 7, .inl (nA Od)))] sz)) 0 0 (va_A [(z0, .inr (6, [.ref z1, .ref z2, .int (nI kn), .ref z3, .int (nI ik), .ref z4, .int (nI ln), .ref z5, .int (nI lo)])), (z1, .inl (G.2 0, 404, .inl (nA M))), (z4, .inl (G.2 0, 60, .inl (nA Tx))), (z5, .inl (G.2 0, 7, .inl (nA Od)))] sz) := wrM (Qf := fun AA => va_Qv (fun u : Nat × (Nat → Nat) => match u with | ⟨l1, o1⟩ => True) (WB G AA (fun u : Nat × (Nat → Nat) => match u with | ⟨l1, o1⟩ => [(z0, .inr (6, [.ref z1, .ref z2, .int (nI kn), .ref z3, .int (nI ik), .ref z4, .int (nI ln), .ref z5, .int (nI l1)])), (z1, .inl (G.2 0, 404, .inl (nA (aDo M Tx ln i)))), (z4, .inl (G.2 0, 60, .inl (nA Tx))), (z5, .inl (G.2 0, 7, .inl (nA o1)))])) AA) (C := RX6) rfl (by decide) rfl (Nat.le_of_ble_eq_true rfl) (fun pX eX sX mX bX meX cX ls AA hx hb hr hts hown hlk hml hin hP hK hD hAA hS hl => by
  have hl : lv_has ls 7 [(0, .ref z0), (1, .int (nI i))] := hl
  have hF6 : ∀ w ∈ wsX60, w ∈ wsX6_does := fun _ h => (List.mem_cons_of_mem _ (List.mem_append_right _ h))
  have hd1 := dgt_le Tx ln (i + 1)
  have hd2 := dgt_le Tx ln (i + 2)
  have hpe := pE_le Tx ln (i + 1)
  have hoe := oE_le Tx ln i
  have hog := oE_ge ho
  refine lv_aload_n hx hb dX6_does_0 rfl (lv_at hl 0 rfl) ?_
  refine lv_iload_n hx hb dX6_does_1 rfl (lv_at hl 1 rfl) ?_
  refine rcV (As := [.int (nI i)]) (wl := [(z0, .inr (6, [.ref z1, .ref z2, .int (nI kn), .ref z3, .int (nI ik), .ref z4, .int (nI ln), .ref z5, .int (nI lo)])), (z4, .inl (G.2 0, 60, .inl (nA Tx)))]) ⟨hx, hb, hml, hown, hts⟩ (c_X6_orderEnd l G z0 z4 [.ref z1, .ref z2, .int (nI kn), .ref z3, .int (nI ik), .ref z4, .int (nI ln), .ref z5, .int (nI lo)] ln Tx i rfl rfl (by omega) hT (by omega)) (cwV 1 hts gX6_does_X6_orderEnd rfl rfl rfl (by decide +kernel) ⟨Nat.le_of_ble_eq_true rfl, Nat.le_of_ble_eq_true rfl⟩) hK (hP.sub [0, 2] rfl) 6 0 rfl rfl rfl hl.1 rfl (Nat.le_of_ble_eq_true rfl) dX6_does_2 ⟨Nat.zero_le _, Nat.zero_le _⟩ ?_
  refine nr_top (y := nI ((oE Tx ln i).2)) (er_p ho) ?_
  refine lv_istore_n (lv' := [(2, .int (nI ((oE Tx ln i).2))), (0, .ref z0), (1, .int (nI i))]) hx hb dX6_does_5 rfl hl (by decide) rfl (fun ls hl => ?_)
  refine lv_aload_n hx hb dX6_does_6 rfl (lv_at hl 1 rfl) ?_
  refine lv_iload_n hx hb dX6_does_7 rfl (lv_at hl 2 rfl) ?_
  refine nr_const (v := 1) hx hb dX6_does_8 rfl ?_
  refine nr_add hx hb dX6_does_9 ?_
  refine rcV (As := [.int (nI (i + 1))]) (wl := [(z0, .inr (6, [.ref z1, .ref z2, .int (nI kn), .ref z3, .int (nI ik), .ref z4, .int (nI ln), .ref z5, .int (nI lo)])), (z4, .inl (G.2 0, 60, .inl (nA Tx)))]) ⟨hx, hb, hml, hown, hts⟩ (c_X6_digit l G z0 z4 [.ref z1, .ref z2, .int (nI kn), .ref z3, .int (nI ik), .ref z4, .int (nI ln), .ref z5, .int (nI lo)] ln Tx (i + 1) rfl rfl (by omega) hT (by omega)) (cwV 1 hts gX6_does_X6_digit rfl rfl rfl (by decide +kernel) ⟨Nat.le_of_ble_eq_true rfl, Nat.le_of_ble_eq_true rfl⟩) hK (hP.sub [0, 2] rfl) 6 0 rfl rfl rfl hl.1 rfl (Nat.le_of_ble_eq_true rfl) dX6_does_10 ⟨Nat.zero_le _, Nat.zero_le _⟩ ?_
  refine lv_istore_n (lv' := [(3, .int (dgI (dgt Tx ln (i + 1)))), (2, .int (nI ((oE Tx ln i).2))), (0, .ref z0), (1, .int (nI i))]) hx hb dX6_does_13 rfl hl (by decide) rfl (fun ls hl => ?_)
  refine lv_aload_n hx hb dX6_does_14 rfl (lv_at hl 2 rfl) ?_
  refine lv_iload_n hx hb dX6_does_15 rfl (lv_at hl 3 rfl) ?_
  refine rcV (As := [.int (nI i)]) (wl := [(z0, .inr (6, [.ref z1, .ref z2, .int (nI kn), .ref z3, .int (nI ik), .ref z4, .int (nI ln), .ref z5, .int (nI lo)])), (z4, .inl (G.2 0, 60, .inl (nA Tx)))]) ⟨hx, hb, hml, hown, hts⟩ (c_X6_sign l G z0 z4 [.ref z1, .ref z2, .int (nI kn), .ref z3, .int (nI ik), .ref z4, .int (nI ln), .ref z5, .int (nI lo)] ln Tx i rfl rfl (by omega) hT (by omega)) (cwV 1 hts gX6_does_X6_sign rfl rfl rfl (by decide +kernel) ⟨Nat.le_of_ble_eq_true rfl, Nat.le_of_ble_eq_true rfl⟩) hK (hP.sub [0, 2] rfl) 6 0 rfl rfl rfl hl.1 rfl (Nat.le_of_ble_eq_true rfl) dX6_does_16 ⟨Nat.zero_le _, Nat.zero_le _⟩ ?_
  by_cases h1 : sgI Tx ln i = nI 103
  · refine nr_top h1 ?_
    refine lv_lookup (off := 96) (tgt := 115) hx hb dX6_does_19 (by decide) (by decide +kernel) (by decide) ?_
    have hs := (sgI_e (ch := 103) hT (by decide)).mp (by assumption)
    have hsd := oG hs ho
    refine lv_aload_n hx hb dX6_does_115 rfl (lv_at hl 2 rfl) ?_
    refine va_get (D := G.1) (ci := 6) (v := .ref z1) (C := RX6) (T := TX6) (N := 9) hx hb hts hF6 hown hK hP 0 rfl rfl 0 (by decide) (hts (.fieldLink RX6 7 "CousinSharesModel" "s" "[I") (List.mem_of_getElem? (i := 1) rfl)) (fun _ h9 => h9) rfl dX6_does_116 ?_
    refine nr_si (v := 148) hx hb dX6_does_119 (by decide +kernel) ?_
    refine nr_bi (v := 7) hx hb dX6_does_122 (by decide +kernel) ?_
    refine lv_iload_n hx hb dX6_does_124 rfl (lv_at hl 0 rfl) ?_
    refine nr_top (y := nI (dgt Tx ln (i + 1))) (dgI_p (by omega)) ?_
    refine nr_mul hx hb dX6_does_125 ?_
    refine nr_add hx hb dX6_does_126 ?_
    refine lv_aload_n hx hb dX6_does_127 rfl (lv_at hl 2 rfl) ?_
    refine lv_iload_n hx hb dX6_does_128 rfl (lv_at hl 3 rfl) ?_
    refine nr_const (v := 2) hx hb dX6_does_129 rfl ?_
    refine nr_add hx hb dX6_does_130 ?_
    refine rcV (As := [.int (nI (i + 2))]) (wl := [(z0, .inr (6, [.ref z1, .ref z2, .int (nI kn), .ref z3, .int (nI ik), .ref z4, .int (nI ln), .ref z5, .int (nI lo)])), (z4, .inl (G.2 0, 60, .inl (nA Tx)))]) ⟨hx, hb, hml, hown, hts⟩ (c_X6_digit l G z0 z4 [.ref z1, .ref z2, .int (nI kn), .ref z3, .int (nI ik), .ref z4, .int (nI ln), .ref z5, .int (nI lo)] ln Tx (i + 2) rfl rfl (by omega) hT (by omega)) (cwV 1 hts gX6_does_X6_digit rfl rfl rfl (by decide +kernel) ⟨Nat.le_of_ble_eq_true rfl, Nat.le_of_ble_eq_true rfl⟩) hK (hP.sub [0, 2] rfl) 6 0 rfl rfl rfl hl.1 rfl (Nat.le_of_ble_eq_true rfl) dX6_does_131 ⟨Nat.zero_le _, Nat.zero_le _⟩ ?_
    refine nr_top (y := nI (dgt Tx ln (i + 2))) (dgI_p (by omega)) ?_
    refine nr_add hx hb dX6_does_134 ?_
    refine lv_aload_n hx hb dX6_does_135 rfl (lv_at hl 2 rfl) ?_
    refine lv_iload_n hx hb dX6_does_136 rfl (lv_at hl 1 rfl) ?_
    refine nr_const (v := 1) hx hb dX6_does_137 rfl ?_
    refine nr_sub hx hb dX6_does_138 (by omega) ?_
    refine rcV (As := [.int (nI (((oE Tx ln i).2) - 1))]) (wl := [(z0, .inr (6, [.ref z1, .ref z2, .int (nI kn), .ref z3, .int (nI ik), .ref z4, .int (nI ln), .ref z5, .int (nI lo)])), (z4, .inl (G.2 0, 60, .inl (nA Tx)))]) ⟨hx, hb, hml, hown, hts⟩ (c_X6_digit l G z0 z4 [.ref z1, .ref z2, .int (nI kn), .ref z3, .int (nI ik), .ref z4, .int (nI ln), .ref z5, .int (nI lo)] ln Tx (((oE Tx ln i).2) - 1) rfl rfl (by omega) hT (by omega)) (cwV 1 hts gX6_does_X6_digit rfl rfl rfl (by decide +kernel) ⟨Nat.le_of_ble_eq_true rfl, Nat.le_of_ble_eq_true rfl⟩) hK (hP.sub [0, 2] rfl) 6 0 rfl rfl rfl hl.1 rfl (Nat.le_of_ble_eq_true rfl) dX6_does_139 ⟨Nat.zero_le _, Nat.zero_le _⟩ ?_
    refine nr_top (y := nI (dgt Tx ln ((oE Tx ln i).2 - 1))) (dgI_p hsd.2.2.2.2) ?_
    refine nr_ast (ws' := [(z0, .inr (6, [.ref z1, .ref z2, .int (nI kn), .ref z3, .int (nI ik), .ref z4, .int (nI ln), .ref z5, .int (nI lo)])), (z1, .inl (G.2 0, 404, .inl (nA (va_up M ((148 + (7 * (dgt Tx ln (i + 1)))) + (dgt Tx ln (i + 2))) (dgt Tx ln ((oE Tx ln i).2 - 1)))))), (z4, .inl (G.2 0, 60, .inl (nA Tx))), (z5, .inl (G.2 0, 7, .inl (nA Od)))]) hx hb hK hP hD hS 1 rfl (by omega) (by decide) dX6_does_142 rfl (fun H locs hP hD hS => ?_)
    refine lv_goto (tgt := 188) hx hb dX6_does_143 (by decide) ?_
    rw [← aDo_g hs] at hP hD
    have hP : va_P G.1 vwCl [(z0, .inr (6, [.ref z1, .ref z2, .int (nI kn), .ref z3, .int (nI ik), .ref z4, .int (nI ln), .ref z5, .int (nI lo)])), (z1, .inl (G.2 0, 404, .inl (nA (aDo M Tx ln i)))), (z4, .inl (G.2 0, 60, .inl (nA Tx))), (z5, .inl (G.2 0, 7, .inl (nA Od)))] _ := hP
    have hD : va_D AA [(z0, .inr (6, [.ref z1, .ref z2, .int (nI kn), .ref z3, .int (nI ik), .ref z4, .int (nI ln), .ref z5, .int (nI lo)])), (z1, .inl (G.2 0, 404, .inl (nA (aDo M Tx ln i)))), (z4, .inl (G.2 0, 60, .inl (nA Tx))), (z5, .inl (G.2 0, 7, .inl (nA Od)))] := hD
    exact wretv hx hb hr hlk hK hS ((lo, Od)) hP hD (trivial) dX6_does_188
  · skip
    by_cases h2 : sgI Tx ln i = nI 112
    · refine nr_top h2 ?_
      refine lv_lookup (off := 33) (tgt := 52) hx hb dX6_does_19 (by decide) (by decide +kernel) (by decide) ?_
      have hs := (sgI_e (ch := 112) hT (by decide)).mp (by assumption)
      have hsd := oP hs ho
      refine lv_aload_n hx hb dX6_does_52 rfl (lv_at hl 2 rfl) ?_
      refine lv_iload_n hx hb dX6_does_53 rfl (lv_at hl 3 rfl) ?_
      refine nr_const (v := 1) hx hb dX6_does_54 rfl ?_
      refine nr_add hx hb dX6_does_55 ?_
      refine rcV (As := [.int (nI (i + 1))]) (wl := [(z0, .inr (6, [.ref z1, .ref z2, .int (nI kn), .ref z3, .int (nI ik), .ref z4, .int (nI ln), .ref z5, .int (nI lo)])), (z4, .inl (G.2 0, 60, .inl (nA Tx)))]) ⟨hx, hb, hml, hown, hts⟩ (c_X6_plotEnd l G z0 z4 [.ref z1, .ref z2, .int (nI kn), .ref z3, .int (nI ik), .ref z4, .int (nI ln), .ref z5, .int (nI lo)] ln Tx (i + 1) rfl rfl (by omega) hT (by omega)) (cwV 1 hts gX6_does_X6_plotEnd rfl rfl rfl (by decide +kernel) ⟨Nat.le_of_ble_eq_true rfl, Nat.le_of_ble_eq_true rfl⟩) hK (hP.sub [0, 2] rfl) 6 0 rfl rfl rfl hl.1 rfl (Nat.le_of_ble_eq_true rfl) dX6_does_56 ⟨Nat.zero_le _, Nat.zero_le _⟩ ?_
      refine nr_top (y := nI ((pE Tx ln (i + 1)).2)) (er_p hsd.2.1) ?_
      refine lv_iload_n hx hb dX6_does_59 rfl (lv_at hl 3 rfl) ?_
      refine nr_const (v := 2) hx hb dX6_does_60 rfl ?_
      refine nr_add hx hb dX6_does_61 ?_
      refine join_v (T := Unit) (J := 81) (nL := 7) (fun v => [(3, .int (dgI (dgt Tx ln (i + 1)))), (2, .int (nI ((oE Tx ln i).2))), (0, .ref z0), (1, .int (nI i))]) (fun v => [.int (nI (pN Tx ln (i + 1)))]) (fun v => True) ?_ (fun jj3 => ?_)
      · intro v ls hl hv4
        refine lv_istore (lv' := [(4, .int (nI (pN Tx ln (i + 1)))), (3, .int (dgI (dgt Tx ln (i + 1)))), (2, .int (nI ((oE Tx ln i).2))), (0, .ref z0), (1, .int (nI i))]) hx hb dX6_does_81 hl (by decide) rfl (fun ls hl => ?_)
        refine lv_aload_n hx hb dX6_does_83 rfl (lv_at hl 3 rfl) ?_
        refine nr_const (v := 0) hx hb dX6_does_84 rfl ?_
        refine nr_const (v := 4) hx hb dX6_does_85 rfl ?_
        refine lv_iload hx hb dX6_does_86 (lv_at hl 0 rfl) ?_
        refine nr_mul hx hb dX6_does_88 ?_
        refine nr_add hx hb dX6_does_89 ?_
        refine lv_iload_n hx hb dX6_does_90 rfl (lv_at hl 2 rfl) ?_
        refine nr_const (v := 4) hx hb dX6_does_91 rfl ?_
        refine nr_sub hx hb dX6_does_92 (by omega) ?_
        refine wcVv (As := [.int (nI (0 + (4 * (pN Tx ln (i + 1))))), .int (nI (((oE Tx ln i).2) - 4))]) (ws := [(z0, .inr (6, [.ref z1, .ref z2, .int (nI kn), .ref z3, .int (nI ik), .ref z4, .int (nI ln), .ref z5, .int (nI lo)])), (z1, .inl (G.2 0, 404, .inl (nA M))), (z4, .inl (G.2 0, 60, .inl (nA Tx))), (z5, .inl (G.2 0, 7, .inl (nA Od)))]) (wc := [(z0, .inr (6, [.ref z1, .ref z2, .int (nI kn), .ref z3, .int (nI ik), .ref z4, .int (nI ln), .ref z5, .int (nI lo)])), (z1, .inl (G.2 0, 404, .inl (nA M))), (z4, .inl (G.2 0, 60, .inl (nA Tx)))]) (wr := [(z5, .inl (G.2 0, 7, .inl (nA Od)))]) (wn := fun _ => [(z0, .inr (6, [.ref z1, .ref z2, .int (nI kn), .ref z3, .int (nI ik), .ref z4, .int (nI ln), .ref z5, .int (nI lo)])), (z1, .inl (G.2 0, 404, .inl (nA (cpA M (dgF Tx ln (((oE Tx ln i).2) - 4)) (0 + (4 * (pN Tx ln (i + 1)))) 4)))), (z4, .inl (G.2 0, 60, .inl (nA Tx))), (z5, .inl (G.2 0, 7, .inl (nA Od)))]) ⟨hx, hb, hml, hown, hts⟩ (c_X6_setsFour l G z0 z1 z4 [.ref z1, .ref z2, .int (nI kn), .ref z3, .int (nI ik), .ref z4, .int (nI ln), .ref z5, .int (nI lo)] ln Tx M (0 + (4 * (pN Tx ln (i + 1)))) (((oE Tx ln i).2) - 4) rfl rfl rfl (by omega) hT (by omega) (by omega) hsd.2.2.2 _) (cwV 2 hts gX6_does_X6_setsFour rfl rfl rfl (by decide +kernel) ⟨Nat.le_of_ble_eq_true rfl, Nat.le_of_ble_eq_true rfl⟩) hK hP hD hS hAA [0, 1, 2] [3] [1, 2, 3, 0] rfl rfl rfl rfl (by decide) rfl (fun _ => rfl) 6 0 rfl rfl rfl hl.1 rfl (Nat.le_of_ble_eq_true rfl) dX6_does_93 ⟨by first | exact Nat.le_of_ble_eq_true rfl | omega, by first | exact Nat.le_of_ble_eq_true rfl | omega⟩ (fun uu H locs hw5 hP hD hS => ?_)
        have hP : va_P G.1 vwCl [(z0, .inr (6, [.ref z1, .ref z2, .int (nI kn), .ref z3, .int (nI ik), .ref z4, .int (nI ln), .ref z5, .int (nI lo)])), (z1, .inl (G.2 0, 404, .inl (nA (cpA M (dgF Tx ln (((oE Tx ln i).2) - 4)) (0 + (4 * (pN Tx ln (i + 1)))) 4)))), (z4, .inl (G.2 0, 60, .inl (nA Tx))), (z5, .inl (G.2 0, 7, .inl (nA Od)))] _ := hP
        have hD : va_D AA [(z0, .inr (6, [.ref z1, .ref z2, .int (nI kn), .ref z3, .int (nI ik), .ref z4, .int (nI ln), .ref z5, .int (nI lo)])), (z1, .inl (G.2 0, 404, .inl (nA (cpA M (dgF Tx ln (((oE Tx ln i).2) - 4)) (0 + (4 * (pN Tx ln (i + 1)))) 4)))), (z4, .inl (G.2 0, 60, .inl (nA Tx))), (z5, .inl (G.2 0, 7, .inl (nA Od)))] := hD
        refine lv_goto (tgt := 188) hx hb dX6_does_96 (by decide) ?_
        rw [← aDo_p hs] at hP hD
        have hP : va_P G.1 vwCl [(z0, .inr (6, [.ref z1, .ref z2, .int (nI kn), .ref z3, .int (nI ik), .ref z4, .int (nI ln), .ref z5, .int (nI lo)])), (z1, .inl (G.2 0, 404, .inl (nA (aDo M Tx ln i)))), (z4, .inl (G.2 0, 60, .inl (nA Tx))), (z5, .inl (G.2 0, 7, .inl (nA Od)))] _ := hP
        have hD : va_D AA [(z0, .inr (6, [.ref z1, .ref z2, .int (nI kn), .ref z3, .int (nI ik), .ref z4, .int (nI ln), .ref z5, .int (nI lo)])), (z1, .inl (G.2 0, 404, .inl (nA (aDo M Tx ln i)))), (z4, .inl (G.2 0, 60, .inl (nA Tx))), (z5, .inl (G.2 0, 7, .inl (nA Od)))] := hD
        exact wretv hx hb hr hlk hK hS ((lo, Od)) hP hD (trivial) dX6_does_188
      · skip
        refine br_ine (tgt := 69) hx hb dX6_does_62 (by decide) (by omega) (by omega) (fun h7 => ?_) (fun h7 => ?_)
        · skip
          refine nr_bi (v := 10) hx hb dX6_does_69 (by decide +kernel) ?_
          refine lv_iload_n hx hb dX6_does_71 rfl (lv_at hl 0 rfl) ?_
          refine lv_imul hx hb dX6_does_72 ?_
          refine nr_top (y := nI (10 * dgt Tx ln (i + 1))) ((congrArg (fun z => nI 10 * z) (dgI_p (pE_d hsd.2.1))).trans (pk_mul _ _)) ?_
          refine lv_aload_n hx hb dX6_does_73 rfl (lv_at hl 2 rfl) ?_
          refine lv_iload_n hx hb dX6_does_74 rfl (lv_at hl 3 rfl) ?_
          refine nr_const (v := 2) hx hb dX6_does_75 rfl ?_
          refine nr_add hx hb dX6_does_76 ?_
          refine rcV (As := [.int (nI (i + 2))]) (wl := [(z0, .inr (6, [.ref z1, .ref z2, .int (nI kn), .ref z3, .int (nI ik), .ref z4, .int (nI ln), .ref z5, .int (nI lo)])), (z4, .inl (G.2 0, 60, .inl (nA Tx)))]) ⟨hx, hb, hml, hown, hts⟩ (c_X6_digit l G z0 z4 [.ref z1, .ref z2, .int (nI kn), .ref z3, .int (nI ik), .ref z4, .int (nI ln), .ref z5, .int (nI lo)] ln Tx (i + 2) rfl rfl (by omega) hT (by omega)) (cwV 1 hts gX6_does_X6_digit rfl rfl rfl (by decide +kernel) ⟨Nat.le_of_ble_eq_true rfl, Nat.le_of_ble_eq_true rfl⟩) hK (hP.sub [0, 2] rfl) 6 0 rfl rfl rfl hl.1 rfl (Nat.le_of_ble_eq_true rfl) dX6_does_77 ⟨Nat.zero_le _, Nat.zero_le _⟩ ?_
          refine nr_top (y := nI (dgt Tx ln (i + 2))) (dgI_p (pE_2 hsd.2.1 (by assumption)).2) ?_
          refine nr_add hx hb dX6_does_80 ?_
          refine nr_top (y := nI (pN Tx ln (i + 1))) (congrArg nI (pE_2 hsd.2.1 (by assumption)).1.symm) ?_
          exact jj3 () ls (lv_sub hl [0, 1, 2, 3] rfl) trivial
        · skip
          refine lv_iload_n hx hb dX6_does_65 rfl (lv_at hl 0 rfl) ?_
          refine nr_top (y := nI (pN Tx ln (i + 1))) ((dgI_p (pE_d hsd.2.1)).trans (congrArg nI (pE_1 hsd.2.1 (by assumption)).symm)) ?_
          refine lv_goto (tgt := 81) hx hb dX6_does_66 (by decide) ?_
          exact jj3 () ls (lv_sub hl [0, 1, 2, 3] rfl) trivial
    · skip
      by_cases h8 : sgI Tx ln i = nI 119
      · refine nr_top h8 ?_
        refine lv_lookup (off := 80) (tgt := 99) hx hb dX6_does_19 (by decide) (by decide +kernel) (by decide) ?_
        have hs := (sgI_e (ch := 119) hT (by decide)).mp (by assumption)
        have hsd := oW hs ho
        refine lv_aload_n hx hb dX6_does_99 rfl (lv_at hl 2 rfl) ?_
        refine nr_bi (v := 120) hx hb dX6_does_100 (by decide +kernel) ?_
        refine nr_const (v := 4) hx hb dX6_does_102 rfl ?_
        refine lv_iload_n hx hb dX6_does_103 rfl (lv_at hl 0 rfl) ?_
        refine nr_top (y := nI (dgt Tx ln (i + 1))) (dgI_p (by omega)) ?_
        refine nr_mul hx hb dX6_does_104 ?_
        refine nr_add hx hb dX6_does_105 ?_
        refine lv_iload_n hx hb dX6_does_106 rfl (lv_at hl 1 rfl) ?_
        refine nr_const (v := 4) hx hb dX6_does_107 rfl ?_
        refine nr_sub hx hb dX6_does_108 (by omega) ?_
        refine wcVv (As := [.int (nI (120 + (4 * (dgt Tx ln (i + 1))))), .int (nI (((oE Tx ln i).2) - 4))]) (ws := [(z0, .inr (6, [.ref z1, .ref z2, .int (nI kn), .ref z3, .int (nI ik), .ref z4, .int (nI ln), .ref z5, .int (nI lo)])), (z1, .inl (G.2 0, 404, .inl (nA M))), (z4, .inl (G.2 0, 60, .inl (nA Tx))), (z5, .inl (G.2 0, 7, .inl (nA Od)))]) (wc := [(z0, .inr (6, [.ref z1, .ref z2, .int (nI kn), .ref z3, .int (nI ik), .ref z4, .int (nI ln), .ref z5, .int (nI lo)])), (z1, .inl (G.2 0, 404, .inl (nA M))), (z4, .inl (G.2 0, 60, .inl (nA Tx)))]) (wr := [(z5, .inl (G.2 0, 7, .inl (nA Od)))]) (wn := fun _ => [(z0, .inr (6, [.ref z1, .ref z2, .int (nI kn), .ref z3, .int (nI ik), .ref z4, .int (nI ln), .ref z5, .int (nI lo)])), (z1, .inl (G.2 0, 404, .inl (nA (cpA M (dgF Tx ln (((oE Tx ln i).2) - 4)) (120 + (4 * (dgt Tx ln (i + 1)))) 4)))), (z4, .inl (G.2 0, 60, .inl (nA Tx))), (z5, .inl (G.2 0, 7, .inl (nA Od)))]) ⟨hx, hb, hml, hown, hts⟩ (c_X6_setsFour l G z0 z1 z4 [.ref z1, .ref z2, .int (nI kn), .ref z3, .int (nI ik), .ref z4, .int (nI ln), .ref z5, .int (nI lo)] ln Tx M (120 + (4 * (dgt Tx ln (i + 1)))) (((oE Tx ln i).2) - 4) rfl rfl rfl (by omega) hT (by omega) (by omega) hsd.2.2 _) (cwV 2 hts gX6_does_X6_setsFour rfl rfl rfl (by decide +kernel) ⟨Nat.le_of_ble_eq_true rfl, Nat.le_of_ble_eq_true rfl⟩) hK hP hD hS hAA [0, 1, 2] [3] [1, 2, 3, 0] rfl rfl rfl rfl (by decide) rfl (fun _ => rfl) 6 0 rfl rfl rfl hl.1 rfl (Nat.le_of_ble_eq_true rfl) dX6_does_109 ⟨by first | exact Nat.le_of_ble_eq_true rfl | omega, by first | exact Nat.le_of_ble_eq_true rfl | omega⟩ (fun uu H locs hw9 hP hD hS => ?_)
        have hP : va_P G.1 vwCl [(z0, .inr (6, [.ref z1, .ref z2, .int (nI kn), .ref z3, .int (nI ik), .ref z4, .int (nI ln), .ref z5, .int (nI lo)])), (z1, .inl (G.2 0, 404, .inl (nA (cpA M (dgF Tx ln (((oE Tx ln i).2) - 4)) (120 + (4 * (dgt Tx ln (i + 1)))) 4)))), (z4, .inl (G.2 0, 60, .inl (nA Tx))), (z5, .inl (G.2 0, 7, .inl (nA Od)))] _ := hP
        have hD : va_D AA [(z0, .inr (6, [.ref z1, .ref z2, .int (nI kn), .ref z3, .int (nI ik), .ref z4, .int (nI ln), .ref z5, .int (nI lo)])), (z1, .inl (G.2 0, 404, .inl (nA (cpA M (dgF Tx ln (((oE Tx ln i).2) - 4)) (120 + (4 * (dgt Tx ln (i + 1)))) 4)))), (z4, .inl (G.2 0, 60, .inl (nA Tx))), (z5, .inl (G.2 0, 7, .inl (nA Od)))] := hD
        refine lv_goto (tgt := 188) hx hb dX6_does_112 (by decide) ?_
        rw [← aDo_w hs] at hP hD
        have hP : va_P G.1 vwCl [(z0, .inr (6, [.ref z1, .ref z2, .int (nI kn), .ref z3, .int (nI ik), .ref z4, .int (nI ln), .ref z5, .int (nI lo)])), (z1, .inl (G.2 0, 404, .inl (nA (aDo M Tx ln i)))), (z4, .inl (G.2 0, 60, .inl (nA Tx))), (z5, .inl (G.2 0, 7, .inl (nA Od)))] _ := hP
        have hD : va_D AA [(z0, .inr (6, [.ref z1, .ref z2, .int (nI kn), .ref z3, .int (nI ik), .ref z4, .int (nI ln), .ref z5, .int (nI lo)])), (z1, .inl (G.2 0, 404, .inl (nA (aDo M Tx ln i)))), (z4, .inl (G.2 0, 60, .inl (nA Tx))), (z5, .inl (G.2 0, 7, .inl (nA Od)))] := hD
        exact wretv hx hb hr hlk hK hS ((lo, Od)) hP hD (trivial) dX6_does_188
      · skip
        refine lv_lookup (off := 127) (tgt := 146) hx hb dX6_does_19 (by decide) (by rw [lv_osw h1 (by decide), lv_osw h2 (by decide), lv_osw h8 (by decide)]; rfl) (by decide) ?_
        have n112 : ¬ isS Tx ln i 112 := fun q => absurd ((sgI_e hT (by decide)).mpr q) (by assumption)
        have n119 : ¬ isS Tx ln i 119 := fun q => absurd ((sgI_e hT (by decide)).mpr q) (by assumption)
        have n103 : ¬ isS Tx ln i 103 := fun q => absurd ((sgI_e hT (by decide)).mpr q) (by assumption)
        have hsd := oD n112 n119 n103 ho
        have hcn : (oE Tx ln i).2 - (i + 1) = cc Tx ln 7 (i + 1) 0 := (by omega)
        refine nr_const (v := 0) hx hb dX6_does_146 rfl ?_
        refine lv_istore (lv' := [(5, .int (nI 0)), (3, .int (dgI (dgt Tx ln (i + 1)))), (2, .int (nI ((oE Tx ln i).2))), (0, .ref z0), (1, .int (nI i))]) hx hb dX6_does_147 hl (by decide) rfl (fun ls hl => ?_)
        refine lv_iload_n hx hb dX6_does_149 rfl (lv_at hl 4 rfl) ?_
        refine nr_const (v := 1) hx hb dX6_does_150 rfl ?_
        refine nr_add hx hb dX6_does_151 ?_
        refine lv_istore (lv' := [(6, .int (nI (i + 1))), (5, .int (nI 0)), (3, .int (dgI (dgt Tx ln (i + 1)))), (2, .int (nI ((oE Tx ln i).2))), (0, .ref z0), (1, .int (nI i))]) hx hb dX6_does_152 hl (by decide) rfl (fun ls hl => ?_)
        refine loop_w (T := Nat) (nL := 7) (fun q => q ≤ cc Tx ln 7 (i + 1) 0) (fun q => cc Tx ln 7 (i + 1) 0 - q) (fun q => [(0, .ref z0), (1, .int (nI i)), (2, .int (nI ((oE Tx ln i).2))), (5, .int (nI (pq Tx ln (i + 1) q))), (6, .int (nI (i + 1 + q)))]) (fun q => [(z0, .inr (6, [.ref z1, .ref z2, .int (nI kn), .ref z3, .int (nI ik), .ref z4, .int (nI ln), .ref z5, .int (nI lo)])), (z1, .inl (G.2 0, 404, .inl (nA M))), (z4, .inl (G.2 0, 60, .inl (nA Tx))), (z5, .inl (G.2 0, 7, .inl (nA Od)))]) ?_ 0 (lv_sub hl [4, 5, 3, 1, 0] rfl) hP hD hS (by omega)
        intro q ls H locs hl hP hD hS hi12 ih11
        have hi12_0 := hi12
        have hi12_0 : q ≤ cc Tx ln 7 (i + 1) 0 := hi12_0
        have hl : lv_has ls 7 [(0, .ref z0), (1, .int (nI i)), (2, .int (nI ((oE Tx ln i).2))), (5, .int (nI (pq Tx ln (i + 1) q))), (6, .int (nI (i + 1 + q)))] := hl
        have hP : va_P G.1 vwCl [(z0, .inr (6, [.ref z1, .ref z2, .int (nI kn), .ref z3, .int (nI ik), .ref z4, .int (nI ln), .ref z5, .int (nI lo)])), (z1, .inl (G.2 0, 404, .inl (nA M))), (z4, .inl (G.2 0, 60, .inl (nA Tx))), (z5, .inl (G.2 0, 7, .inl (nA Od)))] _ := hP
        have hD : va_D AA [(z0, .inr (6, [.ref z1, .ref z2, .int (nI kn), .ref z3, .int (nI ik), .ref z4, .int (nI ln), .ref z5, .int (nI lo)])), (z1, .inl (G.2 0, 404, .inl (nA M))), (z4, .inl (G.2 0, 60, .inl (nA Tx))), (z5, .inl (G.2 0, 7, .inl (nA Od)))] := hD
        refine lv_iload hx hb dX6_does_154 (lv_at hl 4 rfl) ?_
        refine lv_iload_n hx hb dX6_does_156 rfl (lv_at hl 2 rfl) ?_
        refine br_ige (tgt := 179) hx hb dX6_does_157 (by decide) (by omega) (by omega) (fun h13 => ?_) (fun h13 => ?_)
        · skip
          have e2 : q = cc Tx ln 7 (i + 1) 0 := (by omega)
          have hpq1 := pq_pos (T := Tx) (L := ln) (j := i + 1) hsd.2.2.1 hsd.2.2.2
          have hpq2 := pq_lt (T := Tx) (L := ln) (j := i + 1) hsd.2.2.2
          subst e2
          have hl : lv_has ls 7 [(0, .ref z0), (1, .int (nI i)), (2, .int (nI ((oE Tx ln i).2))), (5, .int (nI (pq Tx ln (i + 1) (cc Tx ln 7 (i + 1) 0)))), (6, .int (nI (i + 1 + (cc Tx ln 7 (i + 1) 0))))] := hl
          refine lv_aload_n hx hb dX6_does_179 rfl (lv_at hl 0 rfl) ?_
          refine nr_const (v := 0) hx hb dX6_does_180 rfl ?_
          refine lv_iload hx hb dX6_does_181 (lv_at hl 3 rfl) ?_
          refine wcVi (As := [.int (nI 0), .int (nI (pq Tx ln (i + 1) (cc Tx ln 7 (i + 1) 0)))]) (ws := [(z0, .inr (6, [.ref z1, .ref z2, .int (nI kn), .ref z3, .int (nI ik), .ref z4, .int (nI ln), .ref z5, .int (nI lo)])), (z1, .inl (G.2 0, 404, .inl (nA M))), (z4, .inl (G.2 0, 60, .inl (nA Tx))), (z5, .inl (G.2 0, 7, .inl (nA Od)))]) (wc := [(z0, .inr (6, [.ref z1, .ref z2, .int (nI kn), .ref z3, .int (nI ik), .ref z4, .int (nI ln), .ref z5, .int (nI lo)])), (z1, .inl (G.2 0, 404, .inl (nA M))), (z5, .inl (G.2 0, 7, .inl (nA Od)))]) (wr := [(z4, .inl (G.2 0, 60, .inl (nA Tx)))]) (wn := fun _ => [(z0, .inr (6, [.ref z1, .ref z2, .int (nI kn), .ref z3, .int (nI ik), .ref z4, .int (nI ln), .ref z5, .int (nI (lb (fin M (ow M 0) (pq Tx ln (i + 1) (cc Tx ln 7 (i + 1) 0))).1))])), (z1, .inl (G.2 0, 404, .inl (nA (dvM M 0 (gv (fin M (ow M 0) (pq Tx ln (i + 1) (cc Tx ln 7 (i + 1) 0))).2.2.1 (fin M (ow M 0) (pq Tx ln (i + 1) (cc Tx ln 7 (i + 1) 0))).2.1 24 (lb (fin M (ow M 0) (pq Tx ln (i + 1) (cc Tx ln 7 (i + 1) 0))).1)) (fin M (ow M 0) (pq Tx ln (i + 1) (cc Tx ln 7 (i + 1) 0))).2.2.2.1 (fin M (ow M 0) (pq Tx ln (i + 1) (cc Tx ln 7 (i + 1) 0))).2.2.2.2)))), (z4, .inl (G.2 0, 60, .inl (nA Tx))), (z5, .inl (G.2 0, 7, .inl (nA (oa M Od 7))))]) ⟨hx, hb, hml, hown, hts⟩ (c_X6_divides l G z0 z1 z2 kn z3 ik z4 ln z5 lo M Od 0 (pq Tx ln (i + 1) (cc Tx ln 7 (i + 1) 0)) h0 (Or.inl rfl) hpq1 hpq2 (ok_ow h0) _) (cwV 2 hts gX6_does_X6_divides rfl rfl rfl (by decide +kernel) ⟨Nat.le_of_ble_eq_true rfl, Nat.le_of_ble_eq_true rfl⟩) hK hP hD hS hAA [0, 1, 3] [2] [1, 2, 0, 3] rfl rfl rfl rfl (by decide) rfl (fun _ => rfl) 6 0 rfl rfl rfl hl.1 rfl (Nat.le_of_ble_eq_true rfl) dX6_does_183 ⟨by first | exact Nat.le_of_ble_eq_true rfl | omega, by first | exact Nat.le_of_ble_eq_true rfl | omega⟩ (fun rr15 uu H locs hw14 hP hD hS => ?_)
          have hP : va_P G.1 vwCl [(z0, .inr (6, [.ref z1, .ref z2, .int (nI kn), .ref z3, .int (nI ik), .ref z4, .int (nI ln), .ref z5, .int (nI (lb (fin M (ow M 0) (pq Tx ln (i + 1) (cc Tx ln 7 (i + 1) 0))).1))])), (z1, .inl (G.2 0, 404, .inl (nA (dvM M 0 (gv (fin M (ow M 0) (pq Tx ln (i + 1) (cc Tx ln 7 (i + 1) 0))).2.2.1 (fin M (ow M 0) (pq Tx ln (i + 1) (cc Tx ln 7 (i + 1) 0))).2.1 24 (lb (fin M (ow M 0) (pq Tx ln (i + 1) (cc Tx ln 7 (i + 1) 0))).1)) (fin M (ow M 0) (pq Tx ln (i + 1) (cc Tx ln 7 (i + 1) 0))).2.2.2.1 (fin M (ow M 0) (pq Tx ln (i + 1) (cc Tx ln 7 (i + 1) 0))).2.2.2.2)))), (z4, .inl (G.2 0, 60, .inl (nA Tx))), (z5, .inl (G.2 0, 7, .inl (nA (oa M Od 7))))] _ := hP
          have hD : va_D AA [(z0, .inr (6, [.ref z1, .ref z2, .int (nI kn), .ref z3, .int (nI ik), .ref z4, .int (nI ln), .ref z5, .int (nI (lb (fin M (ow M 0) (pq Tx ln (i + 1) (cc Tx ln 7 (i + 1) 0))).1))])), (z1, .inl (G.2 0, 404, .inl (nA (dvM M 0 (gv (fin M (ow M 0) (pq Tx ln (i + 1) (cc Tx ln 7 (i + 1) 0))).2.2.1 (fin M (ow M 0) (pq Tx ln (i + 1) (cc Tx ln 7 (i + 1) 0))).2.1 24 (lb (fin M (ow M 0) (pq Tx ln (i + 1) (cc Tx ln 7 (i + 1) 0))).1)) (fin M (ow M 0) (pq Tx ln (i + 1) (cc Tx ln 7 (i + 1) 0))).2.2.2.1 (fin M (ow M 0) (pq Tx ln (i + 1) (cc Tx ln 7 (i + 1) 0))).2.2.2.2)))), (z4, .inl (G.2 0, 60, .inl (nA Tx))), (z5, .inl (G.2 0, 7, .inl (nA (oa M Od 7))))] := hD
          obtain ⟨hrhw14, hw14⟩ := hw14
          subst hrhw14
          refine lv_istore (lv' := [(6, .int (nI ((fin M (ow M 0) (pq Tx ln (i + 1) (cc Tx ln 7 (i + 1) 0))).2.2.2.1))), (0, .ref z0), (1, .int (nI i)), (2, .int (nI ((oE Tx ln i).2))), (5, .int (nI (pq Tx ln (i + 1) (cc Tx ln 7 (i + 1) 0))))]) hx hb dX6_does_186 hl (by decide) rfl (fun ls hl => ?_)
          have hP : va_P G.1 vwCl [(z0, .inr (6, [.ref z1, .ref z2, .int (nI kn), .ref z3, .int (nI ik), .ref z4, .int (nI ln), .ref z5, .int (nI (lb (fin M (ow M 0) (pq Tx ln (i + 1) (cc Tx ln 7 (i + 1) 0))).1))])), (z1, .inl (G.2 0, 404, .inl (nA (dM M (pq Tx ln (i + 1) (cc Tx ln 7 (i + 1) 0)))))), (z4, .inl (G.2 0, 60, .inl (nA Tx))), (z5, .inl (G.2 0, 7, .inl (nA (oa M Od 7))))] _ := hP
          have hD : va_D AA [(z0, .inr (6, [.ref z1, .ref z2, .int (nI kn), .ref z3, .int (nI ik), .ref z4, .int (nI ln), .ref z5, .int (nI (lb (fin M (ow M 0) (pq Tx ln (i + 1) (cc Tx ln 7 (i + 1) 0))).1))])), (z1, .inl (G.2 0, 404, .inl (nA (dM M (pq Tx ln (i + 1) (cc Tx ln 7 (i + 1) 0)))))), (z4, .inl (G.2 0, 60, .inl (nA Tx))), (z5, .inl (G.2 0, 7, .inl (nA (oa M Od 7))))] := hD
          rw [show dM M (pq Tx ln (i + 1) (cc Tx ln 7 (i + 1) 0)) = aDo M Tx ln i by rw [aDo_d n112 n119 n103, hcn]] at hP hD
          have hP : va_P G.1 vwCl [(z0, .inr (6, [.ref z1, .ref z2, .int (nI kn), .ref z3, .int (nI ik), .ref z4, .int (nI ln), .ref z5, .int (nI (lb (fin M (ow M 0) (pq Tx ln (i + 1) (cc Tx ln 7 (i + 1) 0))).1))])), (z1, .inl (G.2 0, 404, .inl (nA (aDo M Tx ln i)))), (z4, .inl (G.2 0, 60, .inl (nA Tx))), (z5, .inl (G.2 0, 7, .inl (nA (oa M Od 7))))] _ := hP
          have hD : va_D AA [(z0, .inr (6, [.ref z1, .ref z2, .int (nI kn), .ref z3, .int (nI ik), .ref z4, .int (nI ln), .ref z5, .int (nI (lb (fin M (ow M 0) (pq Tx ln (i + 1) (cc Tx ln 7 (i + 1) 0))).1))])), (z1, .inl (G.2 0, 404, .inl (nA (aDo M Tx ln i)))), (z4, .inl (G.2 0, 60, .inl (nA Tx))), (z5, .inl (G.2 0, 7, .inl (nA (oa M Od 7))))] := hD
          exact wretv hx hb hr hlk hK hS ((lb (fin M (ow M 0) (pq Tx ln (i + 1) (cc Tx ln 7 (i + 1) 0))).1, oa M Od 7)) hP hD (trivial) dX6_does_188
        · skip
          refine lv_iload hx hb dX6_does_160 (lv_at hl 3 rfl) ?_
          refine nr_const (v := 1) hx hb dX6_does_162 rfl ?_
          refine lv_aload_n hx hb dX6_does_163 rfl (lv_at hl 0 rfl) ?_
          have hdq : dgt Tx ln (i + 1 + q) < 7 := hsd.2.2.2 q (by omega)
          refine lv_iload hx hb dX6_does_164 (lv_at hl 4 rfl) ?_
          refine rcV (As := [.int (nI (i + 1 + q))]) (wl := [(z0, .inr (6, [.ref z1, .ref z2, .int (nI kn), .ref z3, .int (nI ik), .ref z4, .int (nI ln), .ref z5, .int (nI lo)])), (z4, .inl (G.2 0, 60, .inl (nA Tx)))]) ⟨hx, hb, hml, hown, hts⟩ (c_X6_digit l G z0 z4 [.ref z1, .ref z2, .int (nI kn), .ref z3, .int (nI ik), .ref z4, .int (nI ln), .ref z5, .int (nI lo)] ln Tx (i + 1 + q) rfl rfl (by omega) hT (by omega)) (cwV 1 hts gX6_does_X6_digit rfl rfl rfl (by decide +kernel) ⟨Nat.le_of_ble_eq_true rfl, Nat.le_of_ble_eq_true rfl⟩) hK (hP.sub [0, 2] rfl) 6 0 rfl rfl rfl hl.1 rfl (Nat.le_of_ble_eq_true rfl) dX6_does_166 ⟨Nat.zero_le _, Nat.zero_le _⟩ ?_
          refine nr_top (y := nI (dgt Tx ln (i + 1 + q))) (dgI_p (by omega)) ?_
          refine lv_ishl hx hb dX6_does_169 ?_
          refine nr_top (bt_shl hdq) ?_
          refine lv_ior hx hb dX6_does_170 ?_
          refine nr_top (nI_lor _ _) ?_
          refine nr_top (y := nI (pq Tx ln (i + 1) (q + 1))) (rfl) ?_
          refine lv_istore (lv' := [(5, .int (nI (pq Tx ln (i + 1) (q + 1)))), (0, .ref z0), (1, .int (nI i)), (2, .int (nI ((oE Tx ln i).2))), (6, .int (nI (i + 1 + q)))]) hx hb dX6_does_171 hl (by decide) rfl (fun ls hl => ?_)
          refine nr_inc (d := 1) (v := (i + 1 + q) + 1) (lv' := [(6, .int (nI ((i + 1 + q) + 1))), (5, .int (nI (pq Tx ln (i + 1) (q + 1)))), (0, .ref z0), (1, .int (nI i)), (2, .int (nI ((oE Tx ln i).2)))]) hx hb dX6_does_173 hl (k := 4) rfl rfl (by decide) rfl (fun ls hl => ?_)
          refine lv_goto (tgt := 154) hx hb dX6_does_176 (by decide) ?_
          exact ih11 (q + 1) ls H locs (lv_sub hl [2, 3, 4, 1, 0] rfl) hP hD hS (by omega) (by omega))

set_option maxHeartbeats 4000000 in
set_option maxRecDepth 100000 in
theorem c_X6_perform (l : Launch) (G : gG) (z0 : Nat) (z1 : Nat) (z2 : Nat) (kn : Nat) (z3 : Nat) (ik : Nat) (z4 : Nat) (ln : Nat) (z5 : Nat) (lo : Nat) (M : Nat → Nat) (P : Nat → Nat) (Tx : Nat → Nat) (Od : Nat → Nat) (hk : kn ≤ 4) (hln : ln ≤ 60) (hT : ∀ j, j < ln → Tx j < 65536) (h0 : ok M) (sz : Nat) : Met l yX6_perform wsX6_perform ({ frames := 7, cells := 0, slots := 0, locals := 164 } : Room) (WR G [(z0, .inr (6, [.ref z1, .ref z2, .int (nI kn), .ref z3, .int (nI ik), .ref z4, .int (nI ln), .ref z5, .int (nI lo)])), (z1, .inl (G.2 0, 404, .inl (nA M))), (z2, .inl (G.2 0, 808, .inl (nA P))), (z4, .inl (G.2 0, 60, .inl (nA Tx))), (z5, .inl (G.2 0, 7, .inl (nA Od)))] sz [.ref z0]) (va_Qi (fun (r : Int32) (u : (Nat → Nat) × (Nat → Nat) × Nat × Nat × (Nat → Nat)) => match u with | ⟨m1, p1, k1, l1, o1⟩ => (r, m1, p1, k1) = aPerf M P Tx kn ln) (WB G (va_A [(z0, .inr (6, [.ref z1, .ref z2, .int (nI kn), .ref z3, .int (nI ik), .ref z4, .int (nI ln), .ref z5, .int (nI lo)])), (z1, .inl (G.2 0, 404, .inl (nA M))), (z2, .inl (G.2 0, 808, .inl (nA P))), (z4, .inl (G.2 0, 60, .inl (nA Tx))), (z5, .inl (G.2 0, 7, .inl (nA Od)))] sz) (fun u : (Nat → Nat) × (Nat → Nat) × Nat × Nat × (Nat → Nat) => match u with | ⟨m1, p1, k1, l1, o1⟩ => [(z0, .inr (6, [.ref z1, .ref z2, .int (nI k1), .ref z3, .int (nI ik), .ref z4, .int (nI ln), .ref z5, .int (nI l1)])), (z1, .inl (G.2 0, 404, .inl (nA m1))), (z2, .inl (G.2 0, 808, .inl (nA p1))), (z4, .inl (G.2 0, 60, .inl (nA Tx))), (z5, .inl (G.2 0, 7, .inl (nA o1)))])) (va_A [(z0, .inr (6, [.ref z1, .ref z2, .int (nI kn), .ref z3, .int (nI ik), .ref z4, .int (nI ln), .ref z5, .int (nI lo)])), (z1, .inl (G.2 0, 404, .inl (nA M))), (z2, .inl (G.2 0, 808, .inl (nA P))), (z4, .inl (G.2 0, 60, .inl (nA Tx))), (z5, .inl (G.2 0, 7, .inl (nA Od)))] sz)) 0 0 (va_A [(z0, .inr (6, [.ref z1, .ref z2, .int (nI kn), .ref z3, .int (nI ik), .ref z4, .int (nI ln), .ref z5, .int (nI lo)])), (z1, .inl (G.2 0, 404, .inl (nA M))), (z2, .inl (G.2 0, 808, .inl (nA P))), (z4, .inl (G.2 0, 60, .inl (nA Tx))), (z5, .inl (G.2 0, 7, .inl (nA Od)))] sz) := wrM (Qf := fun AA => va_Qi (fun (r : Int32) (u : (Nat → Nat) × (Nat → Nat) × Nat × Nat × (Nat → Nat)) => match u with | ⟨m1, p1, k1, l1, o1⟩ => (r, m1, p1, k1) = aPerf M P Tx kn ln) (WB G AA (fun u : (Nat → Nat) × (Nat → Nat) × Nat × Nat × (Nat → Nat) => match u with | ⟨m1, p1, k1, l1, o1⟩ => [(z0, .inr (6, [.ref z1, .ref z2, .int (nI k1), .ref z3, .int (nI ik), .ref z4, .int (nI ln), .ref z5, .int (nI l1)])), (z1, .inl (G.2 0, 404, .inl (nA m1))), (z2, .inl (G.2 0, 808, .inl (nA p1))), (z4, .inl (G.2 0, 60, .inl (nA Tx))), (z5, .inl (G.2 0, 7, .inl (nA o1)))])) AA) (C := RX6) rfl (by decide) rfl (Nat.le_of_ble_eq_true rfl) (fun pX eX sX mX bX meX cX ls AA hx hb hr hts hown hlk hml hin hP hK hD hAA hS hl => by
  have hl : lv_has ls 4 [(0, .ref z0)] := hl
  have hF6 : ∀ w ∈ wsX60, w ∈ wsX6_perform := fun _ h => (List.mem_cons_of_mem _ (List.mem_append_right _ h))
  have hfb : ¬ (fT Tx ln).1 = true → (fT Tx ln).2 < 2147483648 := fun q => Nat.lt_of_le_of_lt (ft_bd (Nat.zero_le ln) q) (by omega)
  refine lv_aload_n hx hb dX6_perform_0 rfl (lv_at hl 0 rfl) ?_
  refine rcV (As := []) (wl := [(z0, .inr (6, [.ref z1, .ref z2, .int (nI kn), .ref z3, .int (nI ik), .ref z4, .int (nI ln), .ref z5, .int (nI lo)])), (z4, .inl (G.2 0, 60, .inl (nA Tx)))]) ⟨hx, hb, hml, hown, hts⟩ (c_X6_fault l G z0 z4 [.ref z1, .ref z2, .int (nI kn), .ref z3, .int (nI ik), .ref z4, .int (nI ln), .ref z5, .int (nI lo)] ln Tx rfl rfl (by omega) hT) (cwV 0 hts gX6_perform_X6_fault rfl rfl rfl (by decide +kernel) ⟨Nat.le_of_ble_eq_true rfl, Nat.le_of_ble_eq_true rfl⟩) hK (hP.sub [0, 3] rfl) 6 0 rfl rfl rfl hl.1 rfl (Nat.le_of_ble_eq_true rfl) dX6_perform_1 ⟨Nat.zero_le _, Nat.zero_le _⟩ ?_
  refine lv_istore_n (lv' := [(1, .int (ftI (ft Tx ln 60 0 0))), (0, .ref z0)]) hx hb dX6_perform_4 rfl hl (by decide) rfl (fun ls hl => ?_)
  refine lv_iload_n hx hb dX6_perform_5 rfl (lv_at hl 0 rfl) ?_
  refine lv_bipush (v := (-5)) hx hb dX6_perform_6 (by decide +kernel) ?_
  refine lv_icmp_eq (tgt := 16) hx hb dX6_perform_8 (by decide) (fun h1 => ?_) (fun h1 => ?_)
  · skip
    have hf : (fT Tx ln).1 = true := (ftI_5 hfb).mp (by assumption)
    have hfq := fT_q hf
    refine lv_aload_n hx hb dX6_perform_16 rfl (lv_at hl 1 rfl) ?_
    refine wcVv (As := []) (ws := [(z0, .inr (6, [.ref z1, .ref z2, .int (nI kn), .ref z3, .int (nI ik), .ref z4, .int (nI ln), .ref z5, .int (nI lo)])), (z1, .inl (G.2 0, 404, .inl (nA M))), (z2, .inl (G.2 0, 808, .inl (nA P))), (z4, .inl (G.2 0, 60, .inl (nA Tx))), (z5, .inl (G.2 0, 7, .inl (nA Od)))]) (wc := [(z0, .inr (6, [.ref z1, .ref z2, .int (nI kn), .ref z3, .int (nI ik), .ref z4, .int (nI ln), .ref z5, .int (nI lo)])), (z1, .inl (G.2 0, 404, .inl (nA M))), (z2, .inl (G.2 0, 808, .inl (nA P)))]) (wr := [(z4, .inl (G.2 0, 60, .inl (nA Tx))), (z5, .inl (G.2 0, 7, .inl (nA Od)))]) (wn := fun _ => [(z0, .inr (6, [.ref z1, .ref z2, .int (nI (pushK kn)), .ref z3, .int (nI ik), .ref z4, .int (nI ln), .ref z5, .int (nI lo)])), (z1, .inl (G.2 0, 404, .inl (nA M))), (z2, .inl (G.2 0, 808, .inl (nA (pushP P M kn)))), (z4, .inl (G.2 0, 60, .inl (nA Tx))), (z5, .inl (G.2 0, 7, .inl (nA Od)))]) ⟨hx, hb, hml, hown, hts⟩ (c_X6_remembers l G z0 z1 z2 kn z3 ik z4 ln z5 lo M P (by omega) _) (cwV 0 hts gX6_perform_X6_remembers rfl rfl rfl (by decide +kernel) ⟨Nat.le_of_ble_eq_true rfl, Nat.le_of_ble_eq_true rfl⟩) hK hP hD hS hAA [0, 1, 2] [3, 4] [2, 3, 4, 0, 1] rfl rfl rfl rfl (by decide) rfl (fun _ => rfl) 6 0 rfl rfl rfl hl.1 rfl (Nat.le_of_ble_eq_true rfl) dX6_perform_17 ⟨by first | exact Nat.le_of_ble_eq_true rfl | omega, by first | exact Nat.le_of_ble_eq_true rfl | omega⟩ (fun uu H locs hw2 hP hD hS => ?_)
    have hP : va_P G.1 vwCl [(z0, .inr (6, [.ref z1, .ref z2, .int (nI (pushK kn)), .ref z3, .int (nI ik), .ref z4, .int (nI ln), .ref z5, .int (nI lo)])), (z1, .inl (G.2 0, 404, .inl (nA M))), (z2, .inl (G.2 0, 808, .inl (nA (pushP P M kn)))), (z4, .inl (G.2 0, 60, .inl (nA Tx))), (z5, .inl (G.2 0, 7, .inl (nA Od)))] _ := hP
    have hD : va_D AA [(z0, .inr (6, [.ref z1, .ref z2, .int (nI (pushK kn)), .ref z3, .int (nI ik), .ref z4, .int (nI ln), .ref z5, .int (nI lo)])), (z1, .inl (G.2 0, 404, .inl (nA M))), (z2, .inl (G.2 0, 808, .inl (nA (pushP P M kn)))), (z4, .inl (G.2 0, 60, .inl (nA Tx))), (z5, .inl (G.2 0, 7, .inl (nA Od)))] := hD
    refine nr_const (v := 0) hx hb dX6_perform_20 rfl ?_
    refine lv_istore_n (lv' := [(2, .int (nI 0)), (1, .int (ftI (ft Tx ln 60 0 0))), (0, .ref z0)]) hx hb dX6_perform_21 rfl hl (by decide) rfl (fun ls hl => ?_)
    refine nr_const (v := 0) hx hb dX6_perform_22 rfl ?_
    refine lv_istore_n (lv' := [(3, .int (nI 0)), (2, .int (nI 0)), (1, .int (ftI (ft Tx ln 60 0 0))), (0, .ref z0)]) hx hb dX6_perform_23 rfl hl (by decide) rfl (fun ls hl => ?_)
    refine loop_w (T := Nat × Nat × (Nat → Nat)) (nL := 4) (fun x => x.1 ≤ (fT Tx ln).2) (fun x => (fT Tx ln).2 - x.1) (fun x => [(0, .ref z0), (2, .int (nI x.1)), (3, .int (nI (qs Tx ln 0 x.1)))]) (fun x => [(z0, .inr (6, [.ref z1, .ref z2, .int (nI (pushK kn)), .ref z3, .int (nI ik), .ref z4, .int (nI ln), .ref z5, .int (nI x.2.1)])), (z1, .inl (G.2 0, 404, .inl (nA (dos M Tx ln x.1)))), (z2, .inl (G.2 0, 808, .inl (nA (pushP P M kn)))), (z4, .inl (G.2 0, 60, .inl (nA Tx))), (z5, .inl (G.2 0, 7, .inl (nA x.2.2)))]) ?_ (0, lo, Od) (lv_sub hl [3, 1, 0] rfl) hP hD hS (Nat.zero_le _)
    intro x ls H locs hl hP hD hS hi5 ih4
    have hi_l := hi5
    have hi_l : x.1 ≤ (fT Tx ln).2 := hi_l
    have hl : lv_has ls 4 [(0, .ref z0), (2, .int (nI x.1)), (3, .int (nI (qs Tx ln 0 x.1)))] := hl
    have hP : va_P G.1 vwCl [(z0, .inr (6, [.ref z1, .ref z2, .int (nI (pushK kn)), .ref z3, .int (nI ik), .ref z4, .int (nI ln), .ref z5, .int (nI x.2.1)])), (z1, .inl (G.2 0, 404, .inl (nA (dos M Tx ln x.1)))), (z2, .inl (G.2 0, 808, .inl (nA (pushP P M kn)))), (z4, .inl (G.2 0, 60, .inl (nA Tx))), (z5, .inl (G.2 0, 7, .inl (nA x.2.2)))] _ := hP
    have hD : va_D AA [(z0, .inr (6, [.ref z1, .ref z2, .int (nI (pushK kn)), .ref z3, .int (nI ik), .ref z4, .int (nI ln), .ref z5, .int (nI x.2.1)])), (z1, .inl (G.2 0, 404, .inl (nA (dos M Tx ln x.1)))), (z2, .inl (G.2 0, 808, .inl (nA (pushP P M kn)))), (z4, .inl (G.2 0, 60, .inl (nA Tx))), (z5, .inl (G.2 0, 7, .inl (nA x.2.2)))] := hD
    have hqb : qs Tx ln 0 x.1 ≤ ln + 1 := (by rcases Nat.lt_or_ge x.1 (fT Tx ln).2 with q | q; exact Nat.le_of_lt (Nat.lt_succ_of_lt (oE_lt (hfq.2.2.1 x.1 q))); rw [show x.1 = (fT Tx ln).2 by omega]; exact Nat.le_of_eq hfq.2.2.2.2)
    refine lv_iload_n hx hb dX6_perform_24 rfl (lv_at hl 2 rfl) ?_
    refine lv_aload_n hx hb dX6_perform_25 rfl (lv_at hl 0 rfl) ?_
    refine va_get (D := G.1) (ci := 6) (v := .int (nI ln)) (C := RX6) (T := TX6) (N := 9) hx hb hts hF6 hown hK hP 0 rfl rfl 6 (by decide) (hts (.fieldLink RX6 121 "CousinSharesModel" "length" "I") (List.mem_of_getElem? (i := 1) rfl)) (fun _ h9 => h9) rfl dX6_perform_26 ?_
    refine br_ige (tgt := 51) hx hb dX6_perform_29 (by decide) (by omega) (by omega) (fun h6 => ?_) (fun h6 => ?_)
    · skip
      have hxn : x.1 = (fT Tx ln).2 := (by rcases Nat.lt_or_ge x.1 (fT Tx ln).2 with q | q; exact absurd (oE_lt (hfq.2.2.1 x.1 q)) (by omega); omega)
      refine lv_iload_n hx hb dX6_perform_51 rfl (lv_at hl 1 rfl) ?_
      exact wret hx hb hr hlk hK hS ((dos M Tx ln x.1, pushP P M kn, pushK kn, x.2.1, x.2.2)) hP hD (by unfold aPerf; rw [if_pos hf, ← hxn]) dX6_perform_52
    · skip
      have hxn : x.1 < (fT Tx ln).2 := (by rcases Nat.lt_or_ge x.1 (fT Tx ln).2 with q | q; exact q; exfalso; have e9 : x.1 = (fT Tx ln).2 := (by omega); have := hfq.2.2.2.2; rw [← e9] at this; omega)
      have hxo := hfq.2.2.1 x.1 hxn
      refine lv_aload_n hx hb dX6_perform_32 rfl (lv_at hl 0 rfl) ?_
      refine lv_iload_n hx hb dX6_perform_33 rfl (lv_at hl 2 rfl) ?_
      refine wcVv (As := [.int (nI (qs Tx ln 0 x.1))]) (ws := [(z0, .inr (6, [.ref z1, .ref z2, .int (nI (pushK kn)), .ref z3, .int (nI ik), .ref z4, .int (nI ln), .ref z5, .int (nI x.2.1)])), (z1, .inl (G.2 0, 404, .inl (nA (dos M Tx ln x.1)))), (z2, .inl (G.2 0, 808, .inl (nA (pushP P M kn)))), (z4, .inl (G.2 0, 60, .inl (nA Tx))), (z5, .inl (G.2 0, 7, .inl (nA x.2.2)))]) (wc := [(z0, .inr (6, [.ref z1, .ref z2, .int (nI (pushK kn)), .ref z3, .int (nI ik), .ref z4, .int (nI ln), .ref z5, .int (nI x.2.1)])), (z1, .inl (G.2 0, 404, .inl (nA (dos M Tx ln x.1)))), (z4, .inl (G.2 0, 60, .inl (nA Tx))), (z5, .inl (G.2 0, 7, .inl (nA x.2.2)))]) (wr := [(z2, .inl (G.2 0, 808, .inl (nA (pushP P M kn))))]) (wn := fun u => match u with | ⟨u0, u1⟩ => [(z0, .inr (6, [.ref z1, .ref z2, .int (nI (pushK kn)), .ref z3, .int (nI ik), .ref z4, .int (nI ln), .ref z5, .int (nI u0)])), (z1, .inl (G.2 0, 404, .inl (nA (aDo (dos M Tx ln x.1) Tx ln (qs Tx ln 0 x.1))))), (z2, .inl (G.2 0, 808, .inl (nA (pushP P M kn)))), (z4, .inl (G.2 0, 60, .inl (nA Tx))), (z5, .inl (G.2 0, 7, .inl (nA u1)))]) ⟨hx, hb, hml, hown, hts⟩ (c_X6_does l G z0 z1 z2 (pushK kn) z3 ik z4 ln z5 x.2.1 (dos M Tx ln x.1) Tx x.2.2 (qs Tx ln 0 x.1) (by omega) hT (dos_ok h0 hf hi_l) (by omega) hxo _) (cwV 1 hts gX6_perform_X6_does rfl rfl rfl (by decide +kernel) ⟨Nat.le_of_ble_eq_true rfl, Nat.le_of_ble_eq_true rfl⟩) hK hP hD hS hAA [0, 1, 3, 4] [2] [1, 2, 0, 3, 4] rfl rfl rfl rfl (by decide) rfl (fun _ => rfl) 6 0 rfl rfl rfl hl.1 rfl (Nat.le_of_ble_eq_true rfl) dX6_perform_34 ⟨by first | exact Nat.le_of_ble_eq_true rfl | omega, by first | exact Nat.le_of_ble_eq_true rfl | omega⟩ (fun uu H locs hw9 hP hD hS => ?_)
      obtain ⟨l1_7, o1_8⟩ := uu
      have hP : va_P G.1 vwCl [(z0, .inr (6, [.ref z1, .ref z2, .int (nI (pushK kn)), .ref z3, .int (nI ik), .ref z4, .int (nI ln), .ref z5, .int (nI l1_7)])), (z1, .inl (G.2 0, 404, .inl (nA (aDo (dos M Tx ln x.1) Tx ln (qs Tx ln 0 x.1))))), (z2, .inl (G.2 0, 808, .inl (nA (pushP P M kn)))), (z4, .inl (G.2 0, 60, .inl (nA Tx))), (z5, .inl (G.2 0, 7, .inl (nA o1_8)))] _ := hP
      have hD : va_D AA [(z0, .inr (6, [.ref z1, .ref z2, .int (nI (pushK kn)), .ref z3, .int (nI ik), .ref z4, .int (nI ln), .ref z5, .int (nI l1_7)])), (z1, .inl (G.2 0, 404, .inl (nA (aDo (dos M Tx ln x.1) Tx ln (qs Tx ln 0 x.1))))), (z2, .inl (G.2 0, 808, .inl (nA (pushP P M kn)))), (z4, .inl (G.2 0, 60, .inl (nA Tx))), (z5, .inl (G.2 0, 7, .inl (nA o1_8)))] := hD
      refine nr_inc (d := 1) (v := x.1 + 1) (lv' := [(2, .int (nI (x.1 + 1))), (0, .ref z0), (3, .int (nI (qs Tx ln 0 x.1)))]) hx hb dX6_perform_37 hl (k := 1) rfl rfl (by decide) rfl (fun ls hl => ?_)
      refine lv_aload_n hx hb dX6_perform_40 rfl (lv_at hl 1 rfl) ?_
      refine lv_iload_n hx hb dX6_perform_41 rfl (lv_at hl 2 rfl) ?_
      refine rcV (As := [.int (nI (qs Tx ln 0 x.1))]) (wl := [(z0, .inr (6, [.ref z1, .ref z2, .int (nI (pushK kn)), .ref z3, .int (nI ik), .ref z4, .int (nI ln), .ref z5, .int (nI l1_7)])), (z4, .inl (G.2 0, 60, .inl (nA Tx)))]) ⟨hx, hb, hml, hown, hts⟩ (c_X6_orderEnd l G z0 z4 [.ref z1, .ref z2, .int (nI (pushK kn)), .ref z3, .int (nI ik), .ref z4, .int (nI ln), .ref z5, .int (nI l1_7)] ln Tx (qs Tx ln 0 x.1) rfl rfl (by omega) hT (by omega)) (cwV 1 hts gX6_perform_X6_orderEnd rfl rfl rfl (by decide +kernel) ⟨Nat.le_of_ble_eq_true rfl, Nat.le_of_ble_eq_true rfl⟩) hK (hP.sub [0, 3] rfl) 6 0 rfl rfl rfl hl.1 rfl (Nat.le_of_ble_eq_true rfl) dX6_perform_42 ⟨Nat.zero_le _, Nat.zero_le _⟩ ?_
      refine nr_top (y := nI ((oE Tx ln (qs Tx ln 0 x.1)).2)) (er_p hxo) ?_
      refine nr_const (v := 1) hx hb dX6_perform_45 rfl ?_
      refine nr_add hx hb dX6_perform_46 ?_
      refine lv_istore_n (lv' := [(3, .int (nI (((oE Tx ln (qs Tx ln 0 x.1)).2) + 1))), (2, .int (nI (x.1 + 1))), (0, .ref z0)]) hx hb dX6_perform_47 rfl hl (by decide) rfl (fun ls hl => ?_)
      refine lv_goto (tgt := 24) hx hb dX6_perform_48 (by decide) ?_
      exact ih4 (x.1 + 1, l1_7, o1_8) ls H locs (lv_sub hl [2, 1, 0] rfl) hP hD hS hxn (by dsimp only; omega)
  · skip
    have hf : ¬ (fT Tx ln).1 = true := fun q => absurd ((ftI_5 hfb).mpr q) (by assumption)
    refine lv_bipush (v := (-100)) hx hb dX6_perform_11 (by decide +kernel) ?_
    refine lv_iload_n hx hb dX6_perform_13 rfl (lv_at hl 0 rfl) ?_
    refine lv_isub hx hb dX6_perform_14 ?_
    exact wret hx hb hr hlk hK hS ((M, P, kn, lo, Od)) hP hD (by have e : ftI (fT Tx ln) = nI (fT Tx ln).2 := if_neg hf; unfold aPerf; rw [if_neg hf, ← e]) dX6_perform_15)
