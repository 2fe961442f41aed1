set_option maxHeartbeats 4000000 in
set_option maxRecDepth 100000 in
theorem c_X3_readOther (l : Launch) (G : gG) (x0 : Nat) (x1 : Nat) (x2 : Nat) (ln : Nat) (ps : Nat) (kd : Nat) (fi : Int32) (se : Int32) (pa : Nat) (DG : Nat → Nat) (T : Nat → Nat) (f : Nat) (hps : ps ≤ 900) (hln : ln ≤ 60) (hT : ∀ j, j < 60 → T j < 65536) (hf : f ≤ 6) (sz : Nat) : Met l yX3_readOther wsX3_readOther ({ frames := 1, cells := 0, slots := 0, locals := 23 } : Room) (WR G [(x0, .inr (3, [.int (nI ln), .int (nI ps), .int (nI kd), .int (nI f), .int se, .int (nI pa), .ref x1, .ref x2])), (x1, .inl (G.2 0, 4, .inl (nA DG))), (x2, .inl (G.2 1, 60, .inl (nA T)))] sz [.ref x0]) (va_Qi (fun (r : Int32) (_ : Unit) => r = nI (bb (oth T ln ps f)) ∧ (True)) (WB G (va_A [(x0, .inr (3, [.int (nI ln), .int (nI ps), .int (nI kd), .int (nI f), .int se, .int (nI pa), .ref x1, .ref x2])), (x1, .inl (G.2 0, 4, .inl (nA DG))), (x2, .inl (G.2 1, 60, .inl (nA T)))] sz) (fun _ : Unit => [(x0, .inr (3, [.int (nI ln), .int (nI (ps + bb (oth T ln ps f))), .int (nI kd), .int (nI f), .int (if oth T ln ps f then nI (dgt T ln ps) else -1), .int (nI pa), .ref x1, .ref x2])), (x1, .inl (G.2 0, 4, .inl (nA DG))), (x2, .inl (G.2 1, 60, .inl (nA T)))])) (va_A [(x0, .inr (3, [.int (nI ln), .int (nI ps), .int (nI kd), .int (nI f), .int se, .int (nI pa), .ref x1, .ref x2])), (x1, .inl (G.2 0, 4, .inl (nA DG))), (x2, .inl (G.2 1, 60, .inl (nA T)))] sz)) 0 0 (va_A [(x0, .inr (3, [.int (nI ln), .int (nI ps), .int (nI kd), .int (nI f), .int se, .int (nI pa), .ref x1, .ref x2])), (x1, .inl (G.2 0, 4, .inl (nA DG))), (x2, .inl (G.2 1, 60, .inl (nA T)))] sz) := wrM (Qf := fun AA => va_Qi (fun (r : Int32) (_ : Unit) => r = nI (bb (oth T ln ps f)) ∧ (True)) (WB G AA (fun _ : Unit => [(x0, .inr (3, [.int (nI ln), .int (nI (ps + bb (oth T ln ps f))), .int (nI kd), .int (nI f), .int (if oth T ln ps f then nI (dgt T ln ps) else -1), .int (nI pa), .ref x1, .ref x2])), (x1, .inl (G.2 0, 4, .inl (nA DG))), (x2, .inl (G.2 1, 60, .inl (nA T)))])) AA) (C := RX3) rfl (by decide) rfl (Nat.le_of_ble_eq_true rfl) (fun pX eX sX mX bX meX cX ls AA hx hb hr hts hown hlk hml hin hP hK hD hAA hS hl => by
  have hl : lv_has ls 1 [(0, .ref x0)] := hl
  have hF3 : ∀ w ∈ wsX30, w ∈ wsX3_readOther := fun _ h => (List.mem_cons_of_mem _ (List.mem_append_right _ h))
  have hdl := dgt_le T ln ps
  refine lv_aload_n hx hb dX3_readOther_0 rfl (lv_at hl 0 rfl) ?_
  refine lv_aload_n hx hb dX3_readOther_1 rfl (lv_at hl 0 rfl) ?_
  refine nr_const (v := 0) hx hb dX3_readOther_2 rfl ?_
  refine lv_aload_n hx hb dX3_readOther_3 rfl (lv_at hl 0 rfl) ?_
  refine va_get (D := G.1) (ci := 3) (v := .int (nI f)) (C := RX3) (T := TX3) (N := 8) hx hb hts hF3 hown hK hP 0 rfl rfl 3 (by decide) (hts (.fieldLink RX3 57 "CousinShares$OrderText" "first" "I") (List.mem_of_getElem? (i := 1) rfl)) (fun _ h9 => h9) rfl dX3_readOther_4 ?_
  refine nr_const (v := 1) hx hb dX3_readOther_7 rfl ?_
  refine lv_isub hx hb dX3_readOther_8 ?_
  refine wcVi (q := (RX3, TX3, 8)) (As := [.int (nI 0), .int ((nI f) - (nI 1))]) (ws := [(x0, .inr (3, [.int (nI ln), .int (nI ps), .int (nI kd), .int (nI f), .int se, .int (nI pa), .ref x1, .ref x2])), (x1, .inl (G.2 0, 4, .inl (nA DG))), (x2, .inl (G.2 1, 60, .inl (nA T)))]) (wc := [(x0, .inr (3, [.int (nI ln), .int (nI ps), .int (nI kd), .int (nI f), .int se, .int (nI pa), .ref x1, .ref x2])), (x1, .inl (G.2 0, 4, .inl (nA DG))), (x2, .inl (G.2 1, 60, .inl (nA T)))]) (wr := []) (wn := fun _ => [(x0, .inr (3, [.int (nI ln), .int (nI (ps + bb (rdk T ln ps 0 f))), .int (nI kd), .int (nI f), .int se, .int (nI pa), .ref x1, .ref x2])), (x1, .inl (G.2 0, 4, .inl (nA DG))), (x2, .inl (G.2 1, 60, .inl (nA T)))]) ⟨hx, hb, hml, hown, hts⟩ (c_X3_readDigit l G x0 x1 x2 ln ps kd (nI f) se pa DG T 0 ((nI f) - (nI 1)) f (by omega) hln hT (by omega) (bd_s (by omega)).1 (bd_s (by omega)).2 _) (cwV 2 hts gX3_readOther_X3_readDigit rfl rfl rfl (by decide +kernel) ⟨Nat.le_of_ble_eq_true rfl, Nat.le_of_ble_eq_true rfl⟩) hK hP hD hS hAA [0, 1, 2] [] [0, 1, 2] rfl rfl rfl rfl (by decide) rfl (fun _ => rfl) 3 0 rfl rfl rfl hl.1 rfl (Nat.le_of_ble_eq_true rfl) dX3_readOther_9 ⟨by first | exact Nat.le_of_ble_eq_true rfl | omega, by first | exact Nat.le_of_ble_eq_true rfl | omega⟩ (fun rr2 uu H locs hw1 hP hD hS => ?_)
  have hP : va_P G.1 vwCl [(x0, .inr (3, [.int (nI ln), .int (nI (ps + bb (rdk T ln ps 0 f))), .int (nI kd), .int (nI f), .int se, .int (nI pa), .ref x1, .ref x2])), (x1, .inl (G.2 0, 4, .inl (nA DG))), (x2, .inl (G.2 1, 60, .inl (nA T)))] _ := hP
  have hD : va_D AA [(x0, .inr (3, [.int (nI ln), .int (nI (ps + bb (rdk T ln ps 0 f))), .int (nI kd), .int (nI f), .int se, .int (nI pa), .ref x1, .ref x2])), (x1, .inl (G.2 0, 4, .inl (nA DG))), (x2, .inl (G.2 1, 60, .inl (nA T)))] := hD
  obtain ⟨hrhw1, hw1⟩ := hw1
  subst hrhw1
  by_cases h3 : rdk T ln ps 0 f
  · skip
    refine nr_top (rdI_p h3) ?_
    rw [bb_t h3] at hP hD
    have hP : va_P G.1 vwCl [(x0, .inr (3, [.int (nI ln), .int (nI (ps + 1)), .int (nI kd), .int (nI f), .int se, .int (nI pa), .ref x1, .ref x2])), (x1, .inl (G.2 0, 4, .inl (nA DG))), (x2, .inl (G.2 1, 60, .inl (nA T)))] _ := hP
    have hD : va_D AA [(x0, .inr (3, [.int (nI ln), .int (nI (ps + 1)), .int (nI kd), .int (nI f), .int se, .int (nI pa), .ref x1, .ref x2])), (x1, .inl (G.2 0, 4, .inl (nA DG))), (x2, .inl (G.2 1, 60, .inl (nA T)))] := hD
    refine va_put (D := G.1) (ci := 3) (v := .int (nI (dgt T ln ps))) (ty := .int) (C := RX3) (T := TX3) (N := 8) hx hb hts hF3 tyX3 tyX3_ok nmX3 hown hK hP hD hS 0 rfl rfl 4 (by decide) (hts (.fieldLink RX3 65 "CousinShares$OrderText" "second" "I") (List.mem_of_getElem? (i := 2) rfl)) (fun _ h9 => h9) rfl (by decide +kernel) rfl rfl (Nat.le_of_ble_eq_true rfl) dX3_readOther_12 (fun H locs hP hD hS => ?_)
    have hP : va_P G.1 vwCl [(x0, .inr (3, [.int (nI ln), .int (nI (ps + 1)), .int (nI kd), .int (nI f), .int (nI (dgt T ln ps)), .int (nI pa), .ref x1, .ref x2])), (x1, .inl (G.2 0, 4, .inl (nA DG))), (x2, .inl (G.2 1, 60, .inl (nA T)))] _ := hP
    have hD : va_D AA [(x0, .inr (3, [.int (nI ln), .int (nI (ps + 1)), .int (nI kd), .int (nI f), .int (nI (dgt T ln ps)), .int (nI pa), .ref x1, .ref x2])), (x1, .inl (G.2 0, 4, .inl (nA DG))), (x2, .inl (G.2 1, 60, .inl (nA T)))] := hD
    refine lv_aload_n hx hb dX3_readOther_15 rfl (lv_at hl 0 rfl) ?_
    refine va_get (D := G.1) (ci := 3) (v := .int (nI (dgt T ln ps))) (C := RX3) (T := TX3) (N := 8) hx hb hts hF3 hown hK hP 0 rfl rfl 4 (by decide) (hts (.fieldLink RX3 65 "CousinShares$OrderText" "second" "I") (List.mem_of_getElem? (i := 2) rfl)) (fun _ h9 => h9) rfl dX3_readOther_16 ?_
    refine br_ge0 (tgt := 38) hx hb dX3_readOther_19 (by decide) (by omega) ?_
    refine lv_aload_n hx hb dX3_readOther_38 rfl (lv_at hl 0 rfl) ?_
    refine va_get (D := G.1) (ci := 3) (v := .int (nI (dgt T ln ps))) (C := RX3) (T := TX3) (N := 8) hx hb hts hF3 hown hK hP 0 rfl rfl 4 (by decide) (hts (.fieldLink RX3 65 "CousinShares$OrderText" "second" "I") (List.mem_of_getElem? (i := 2) rfl)) (fun _ h9 => h9) rfl dX3_readOther_39 ?_
    refine br_lt0 (tgt := 49) hx hb dX3_readOther_42 (by decide) (by omega) ?_
    have hS1 : oth T ln ps f := rdk_o h3 hf
    refine nr_const (v := 1) hx hb dX3_readOther_45 rfl ?_
    refine nr_top (y := nI (bb (oth T ln ps f))) ((congrArg nI (bb_t hS1)).symm) ?_
    refine lv_goto (tgt := 50) hx hb dX3_readOther_46 (by decide) ?_
    exact wretz hx hb hr hlk hK hS (()) (by show va_P G.1 vwCl [(x0, .inr (3, [.int (nI ln), .int (nI (ps + bb (oth T ln ps f))), .int (nI kd), .int (nI f), .int (if oth T ln ps f then nI (dgt T ln ps) else -1), .int (nI pa), .ref x1, .ref x2])), (x1, .inl (G.2 0, 4, .inl (nA DG))), (x2, .inl (G.2 1, 60, .inl (nA T)))] _; rw [bb_t hS1, if_pos hS1]; exact hP) (by show va_D _ [(x0, .inr (3, [.int (nI ln), .int (nI (ps + bb (oth T ln ps f))), .int (nI kd), .int (nI f), .int (if oth T ln ps f then nI (dgt T ln ps) else -1), .int (nI pa), .ref x1, .ref x2])), (x1, .inl (G.2 0, 4, .inl (nA DG))), (x2, .inl (G.2 1, 60, .inl (nA T)))]; rw [bb_t hS1, if_pos hS1]; exact hD) rfl (⟨rfl, trivial⟩) dX3_readOther_50
  · skip
    refine nr_top (rdI_n h3) ?_
    rw [bb_f h3] at hP hD
    have hP : va_P G.1 vwCl [(x0, .inr (3, [.int (nI ln), .int (nI ps), .int (nI kd), .int (nI f), .int se, .int (nI pa), .ref x1, .ref x2])), (x1, .inl (G.2 0, 4, .inl (nA DG))), (x2, .inl (G.2 1, 60, .inl (nA T)))] _ := hP
    have hD : va_D AA [(x0, .inr (3, [.int (nI ln), .int (nI ps), .int (nI kd), .int (nI f), .int se, .int (nI pa), .ref x1, .ref x2])), (x1, .inl (G.2 0, 4, .inl (nA DG))), (x2, .inl (G.2 1, 60, .inl (nA T)))] := hD
    refine va_put (D := G.1) (ci := 3) (v := .int (-1)) (ty := .int) (C := RX3) (T := TX3) (N := 8) hx hb hts hF3 tyX3 tyX3_ok nmX3 hown hK hP hD hS 0 rfl rfl 4 (by decide) (hts (.fieldLink RX3 65 "CousinShares$OrderText" "second" "I") (List.mem_of_getElem? (i := 2) rfl)) (fun _ h9 => h9) rfl (by decide +kernel) rfl rfl (Nat.le_of_ble_eq_true rfl) dX3_readOther_12 (fun H locs hP hD hS => ?_)
    have hP : va_P G.1 vwCl [(x0, .inr (3, [.int (nI ln), .int (nI ps), .int (nI kd), .int (nI f), .int (-1), .int (nI pa), .ref x1, .ref x2])), (x1, .inl (G.2 0, 4, .inl (nA DG))), (x2, .inl (G.2 1, 60, .inl (nA T)))] _ := hP
    have hD : va_D AA [(x0, .inr (3, [.int (nI ln), .int (nI ps), .int (nI kd), .int (nI f), .int (-1), .int (nI pa), .ref x1, .ref x2])), (x1, .inl (G.2 0, 4, .inl (nA DG))), (x2, .inl (G.2 1, 60, .inl (nA T)))] := hD
    refine lv_aload_n hx hb dX3_readOther_15 rfl (lv_at hl 0 rfl) ?_
    refine va_get (D := G.1) (ci := 3) (v := .int (-1)) (C := RX3) (T := TX3) (N := 8) hx hb hts hF3 hown hK hP 0 rfl rfl 4 (by decide) (hts (.fieldLink RX3 65 "CousinShares$OrderText" "second" "I") (List.mem_of_getElem? (i := 2) rfl)) (fun _ h9 => h9) rfl dX3_readOther_16 ?_
    refine lv_if_ge (tgt := 38) hx hb dX3_readOther_19 (by decide) (fun h4 => ?_) (fun h4 => ?_)
    · exact absurd h4 (by decide)
    · skip
      refine lv_aload_n hx hb dX3_readOther_22 rfl (lv_at hl 0 rfl) ?_
      refine lv_aload_n hx hb dX3_readOther_23 rfl (lv_at hl 0 rfl) ?_
      refine lv_aload_n hx hb dX3_readOther_24 rfl (lv_at hl 0 rfl) ?_
      refine va_get (D := G.1) (ci := 3) (v := .int (nI f)) (C := RX3) (T := TX3) (N := 8) hx hb hts hF3 hown hK hP 0 rfl rfl 3 (by decide) (hts (.fieldLink RX3 57 "CousinShares$OrderText" "first" "I") (List.mem_of_getElem? (i := 1) rfl)) (fun _ h9 => h9) rfl dX3_readOther_25 ?_
      refine nr_const (v := 1) hx hb dX3_readOther_28 rfl ?_
      refine nr_add hx hb dX3_readOther_29 ?_
      refine nr_bi (v := 6) hx hb dX3_readOther_30 (by decide +kernel) ?_
      refine wcVi (q := (RX3, TX3, 8)) (As := [.int (nI (f + 1)), .int (nI 6)]) (ws := [(x0, .inr (3, [.int (nI ln), .int (nI ps), .int (nI kd), .int (nI f), .int (-1), .int (nI pa), .ref x1, .ref x2])), (x1, .inl (G.2 0, 4, .inl (nA DG))), (x2, .inl (G.2 1, 60, .inl (nA T)))]) (wc := [(x0, .inr (3, [.int (nI ln), .int (nI ps), .int (nI kd), .int (nI f), .int (-1), .int (nI pa), .ref x1, .ref x2])), (x1, .inl (G.2 0, 4, .inl (nA DG))), (x2, .inl (G.2 1, 60, .inl (nA T)))]) (wr := []) (wn := fun _ => [(x0, .inr (3, [.int (nI ln), .int (nI (ps + bb (rdk T ln ps (f + 1) 7))), .int (nI kd), .int (nI f), .int (-1), .int (nI pa), .ref x1, .ref x2])), (x1, .inl (G.2 0, 4, .inl (nA DG))), (x2, .inl (G.2 1, 60, .inl (nA T)))]) ⟨hx, hb, hml, hown, hts⟩ (c_X3_readDigit l G x0 x1 x2 ln ps kd (nI f) (-1) pa DG T (f + 1) (nI 6) 7 (by omega) hln hT (by omega) (bd_n (g := 7) (by decide) (by decide)).1 (bd_n (g := 7) (by decide) (by decide)).2 _) (cwV 2 hts gX3_readOther_X3_readDigit rfl rfl rfl (by decide +kernel) ⟨Nat.le_of_ble_eq_true rfl, Nat.le_of_ble_eq_true rfl⟩) hK hP hD hS hAA [0, 1, 2] [] [0, 1, 2] rfl rfl rfl rfl (by decide) rfl (fun _ => rfl) 3 0 rfl rfl rfl hl.1 rfl (Nat.le_of_ble_eq_true rfl) dX3_readOther_32 ⟨by first | exact Nat.le_of_ble_eq_true rfl | omega, by first | exact Nat.le_of_ble_eq_true rfl | omega⟩ (fun rr6 uu H locs hw5 hP hD hS => ?_)
      have hP : va_P G.1 vwCl [(x0, .inr (3, [.int (nI ln), .int (nI (ps + bb (rdk T ln ps (f + 1) 7))), .int (nI kd), .int (nI f), .int (-1), .int (nI pa), .ref x1, .ref x2])), (x1, .inl (G.2 0, 4, .inl (nA DG))), (x2, .inl (G.2 1, 60, .inl (nA T)))] _ := hP
      have hD : va_D AA [(x0, .inr (3, [.int (nI ln), .int (nI (ps + bb (rdk T ln ps (f + 1) 7))), .int (nI kd), .int (nI f), .int (-1), .int (nI pa), .ref x1, .ref x2])), (x1, .inl (G.2 0, 4, .inl (nA DG))), (x2, .inl (G.2 1, 60, .inl (nA T)))] := hD
      obtain ⟨hrhw5, hw5⟩ := hw5
      subst hrhw5
      by_cases h7 : rdk T ln ps (f + 1) 7
      · skip
        refine nr_top (rdI_p h7) ?_
        rw [bb_t h7] at hP hD
        have hP : va_P G.1 vwCl [(x0, .inr (3, [.int (nI ln), .int (nI (ps + 1)), .int (nI kd), .int (nI f), .int (-1), .int (nI pa), .ref x1, .ref x2])), (x1, .inl (G.2 0, 4, .inl (nA DG))), (x2, .inl (G.2 1, 60, .inl (nA T)))] _ := hP
        have hD : va_D AA [(x0, .inr (3, [.int (nI ln), .int (nI (ps + 1)), .int (nI kd), .int (nI f), .int (-1), .int (nI pa), .ref x1, .ref x2])), (x1, .inl (G.2 0, 4, .inl (nA DG))), (x2, .inl (G.2 1, 60, .inl (nA T)))] := hD
        refine va_put (D := G.1) (ci := 3) (v := .int (nI (dgt T ln ps))) (ty := .int) (C := RX3) (T := TX3) (N := 8) hx hb hts hF3 tyX3 tyX3_ok nmX3 hown hK hP hD hS 0 rfl rfl 4 (by decide) (hts (.fieldLink RX3 65 "CousinShares$OrderText" "second" "I") (List.mem_of_getElem? (i := 2) rfl)) (fun _ h9 => h9) rfl (by decide +kernel) rfl rfl (Nat.le_of_ble_eq_true rfl) dX3_readOther_35 (fun H locs hP hD hS => ?_)
        have hP : va_P G.1 vwCl [(x0, .inr (3, [.int (nI ln), .int (nI (ps + 1)), .int (nI kd), .int (nI f), .int (nI (dgt T ln ps)), .int (nI pa), .ref x1, .ref x2])), (x1, .inl (G.2 0, 4, .inl (nA DG))), (x2, .inl (G.2 1, 60, .inl (nA T)))] _ := hP
        have hD : va_D AA [(x0, .inr (3, [.int (nI ln), .int (nI (ps + 1)), .int (nI kd), .int (nI f), .int (nI (dgt T ln ps)), .int (nI pa), .ref x1, .ref x2])), (x1, .inl (G.2 0, 4, .inl (nA DG))), (x2, .inl (G.2 1, 60, .inl (nA T)))] := hD
        refine lv_aload_n hx hb dX3_readOther_38 rfl (lv_at hl 0 rfl) ?_
        refine va_get (D := G.1) (ci := 3) (v := .int (nI (dgt T ln ps))) (C := RX3) (T := TX3) (N := 8) hx hb hts hF3 hown hK hP 0 rfl rfl 4 (by decide) (hts (.fieldLink RX3 65 "CousinShares$OrderText" "second" "I") (List.mem_of_getElem? (i := 2) rfl)) (fun _ h9 => h9) rfl dX3_readOther_39 ?_
        refine br_lt0 (tgt := 49) hx hb dX3_readOther_42 (by decide) (by omega) ?_
        have hS1 : oth T ln ps f := rdk_p h7
        refine nr_const (v := 1) hx hb dX3_readOther_45 rfl ?_
        refine nr_top (y := nI (bb (oth T ln ps f))) ((congrArg nI (bb_t hS1)).symm) ?_
        refine lv_goto (tgt := 50) hx hb dX3_readOther_46 (by decide) ?_
        exact wretz hx hb hr hlk hK hS (()) (by show va_P G.1 vwCl [(x0, .inr (3, [.int (nI ln), .int (nI (ps + bb (oth T ln ps f))), .int (nI kd), .int (nI f), .int (if oth T ln ps f then nI (dgt T ln ps) else -1), .int (nI pa), .ref x1, .ref x2])), (x1, .inl (G.2 0, 4, .inl (nA DG))), (x2, .inl (G.2 1, 60, .inl (nA T)))] _; rw [bb_t hS1, if_pos hS1]; exact hP) (by show va_D _ [(x0, .inr (3, [.int (nI ln), .int (nI (ps + bb (oth T ln ps f))), .int (nI kd), .int (nI f), .int (if oth T ln ps f then nI (dgt T ln ps) else -1), .int (nI pa), .ref x1, .ref x2])), (x1, .inl (G.2 0, 4, .inl (nA DG))), (x2, .inl (G.2 1, 60, .inl (nA T)))]; rw [bb_t hS1, if_pos hS1]; exact hD) rfl (⟨rfl, trivial⟩) dX3_readOther_50
      · skip
        refine nr_top (rdI_n h7) ?_
        rw [bb_f h7] at hP hD
        have hP : va_P G.1 vwCl [(x0, .inr (3, [.int (nI ln), .int (nI ps), .int (nI kd), .int (nI f), .int (-1), .int (nI pa), .ref x1, .ref x2])), (x1, .inl (G.2 0, 4, .inl (nA DG))), (x2, .inl (G.2 1, 60, .inl (nA T)))] _ := hP
        have hD : va_D AA [(x0, .inr (3, [.int (nI ln), .int (nI ps), .int (nI kd), .int (nI f), .int (-1), .int (nI pa), .ref x1, .ref x2])), (x1, .inl (G.2 0, 4, .inl (nA DG))), (x2, .inl (G.2 1, 60, .inl (nA T)))] := hD
        refine va_put (D := G.1) (ci := 3) (v := .int (-1)) (ty := .int) (C := RX3) (T := TX3) (N := 8) hx hb hts hF3 tyX3 tyX3_ok nmX3 hown hK hP hD hS 0 rfl rfl 4 (by decide) (hts (.fieldLink RX3 65 "CousinShares$OrderText" "second" "I") (List.mem_of_getElem? (i := 2) rfl)) (fun _ h9 => h9) rfl (by decide +kernel) rfl rfl (Nat.le_of_ble_eq_true rfl) dX3_readOther_35 (fun H locs hP hD hS => ?_)
        have hP : va_P G.1 vwCl [(x0, .inr (3, [.int (nI ln), .int (nI ps), .int (nI kd), .int (nI f), .int (-1), .int (nI pa), .ref x1, .ref x2])), (x1, .inl (G.2 0, 4, .inl (nA DG))), (x2, .inl (G.2 1, 60, .inl (nA T)))] _ := hP
        have hD : va_D AA [(x0, .inr (3, [.int (nI ln), .int (nI ps), .int (nI kd), .int (nI f), .int (-1), .int (nI pa), .ref x1, .ref x2])), (x1, .inl (G.2 0, 4, .inl (nA DG))), (x2, .inl (G.2 1, 60, .inl (nA T)))] := hD
        refine lv_aload_n hx hb dX3_readOther_38 rfl (lv_at hl 0 rfl) ?_
        refine va_get (D := G.1) (ci := 3) (v := .int (-1)) (C := RX3) (T := TX3) (N := 8) hx hb hts hF3 hown hK hP 0 rfl rfl 4 (by decide) (hts (.fieldLink RX3 65 "CousinShares$OrderText" "second" "I") (List.mem_of_getElem? (i := 2) rfl)) (fun _ h9 => h9) rfl dX3_readOther_39 ?_
        refine lv_if_lt (tgt := 49) hx hb dX3_readOther_42 (by decide) (fun h8 => ?_) (fun h8 => ?_)
        · skip
          have hS1 : ¬ (oth T ln ps f) := rdk_q h3 h7
          refine nr_const (v := 0) hx hb dX3_readOther_49 rfl ?_
          refine nr_top (y := nI (bb (oth T ln ps f))) ((congrArg nI (bb_f hS1)).symm) ?_
          exact wretz hx hb hr hlk hK hS (()) (by show va_P G.1 vwCl [(x0, .inr (3, [.int (nI ln), .int (nI (ps + bb (oth T ln ps f))), .int (nI kd), .int (nI f), .int (if oth T ln ps f then nI (dgt T ln ps) else -1), .int (nI pa), .ref x1, .ref x2])), (x1, .inl (G.2 0, 4, .inl (nA DG))), (x2, .inl (G.2 1, 60, .inl (nA T)))] _; rw [bb_f hS1, if_neg hS1]; exact hP) (by show va_D _ [(x0, .inr (3, [.int (nI ln), .int (nI (ps + bb (oth T ln ps f))), .int (nI kd), .int (nI f), .int (if oth T ln ps f then nI (dgt T ln ps) else -1), .int (nI pa), .ref x1, .ref x2])), (x1, .inl (G.2 0, 4, .inl (nA DG))), (x2, .inl (G.2 1, 60, .inl (nA T)))]; rw [bb_f hS1, if_neg hS1]; exact hD) rfl (⟨rfl, trivial⟩) dX3_readOther_50
        · exact absurd (by decide) h8)

set_option maxHeartbeats 4000000 in
set_option maxRecDepth 100000 in
theorem c_X3_readDigits (l : Launch) (G : gG) (x0 : Nat) (x1 : Nat) (x2 : Nat) (ln : Nat) (ps : Nat) (kd : Nat) (fi : Int32) (se : Int32) (pa : Nat) (DG : Nat → Nat) (T : Nat → Nat) (cn : Nat) (hps : ps ≤ 900) (hln : ln ≤ 60) (hT : ∀ j, j < 60 → T j < 65536) (hcn : cn ≤ 4) (sz : Nat) : Met l yX3_readDigits wsX3_readDigits ({ frames := 1, cells := 0, slots := 0, locals := 23 } : Room) (WR G [(x0, .inr (3, [.int (nI ln), .int (nI ps), .int (nI kd), .int fi, .int se, .int (nI pa), .ref x1, .ref x2])), (x1, .inl (G.2 0, 4, .inl (nA DG))), (x2, .inl (G.2 1, 60, .inl (nA T)))] sz [.ref x0, .int (nI cn)]) (va_Qi (fun (r : Int32) (_ : Unit) => r = nI (bb (dc T ln cn ps = cn)) ∧ (True)) (WB G (va_A [(x0, .inr (3, [.int (nI ln), .int (nI ps), .int (nI kd), .int fi, .int se, .int (nI pa), .ref x1, .ref x2])), (x1, .inl (G.2 0, 4, .inl (nA DG))), (x2, .inl (G.2 1, 60, .inl (nA T)))] sz) (fun _ : Unit => [(x0, .inr (3, [.int (nI ln), .int (nI (ps + dc T ln cn ps)), .int (nI kd), .int fi, .int se, .int (nI pa), .ref x1, .ref x2])), (x1, .inl (G.2 0, 4, .inl (nA (cpA DG (dgF T ln ps) 0 (dc T ln cn ps))))), (x2, .inl (G.2 1, 60, .inl (nA T)))])) (va_A [(x0, .inr (3, [.int (nI ln), .int (nI ps), .int (nI kd), .int fi, .int se, .int (nI pa), .ref x1, .ref x2])), (x1, .inl (G.2 0, 4, .inl (nA DG))), (x2, .inl (G.2 1, 60, .inl (nA T)))] sz)) 0 0 (va_A [(x0, .inr (3, [.int (nI ln), .int (nI ps), .int (nI kd), .int fi, .int se, .int (nI pa), .ref x1, .ref x2])), (x1, .inl (G.2 0, 4, .inl (nA DG))), (x2, .inl (G.2 1, 60, .inl (nA T)))] sz) := wrM (Qf := fun AA => va_Qi (fun (r : Int32) (_ : Unit) => r = nI (bb (dc T ln cn ps = cn)) ∧ (True)) (WB G AA (fun _ : Unit => [(x0, .inr (3, [.int (nI ln), .int (nI (ps + dc T ln cn ps)), .int (nI kd), .int fi, .int se, .int (nI pa), .ref x1, .ref x2])), (x1, .inl (G.2 0, 4, .inl (nA (cpA DG (dgF T ln ps) 0 (dc T ln cn ps))))), (x2, .inl (G.2 1, 60, .inl (nA T)))])) AA) (C := RX3) rfl (by decide) rfl (Nat.le_of_ble_eq_true rfl) (fun pX eX sX mX bX meX cX ls AA hx hb hr hts hown hlk hml hin hP hK hD hAA hS hl => by
  have hl : lv_has ls 4 [(0, .ref x0), (1, .int (nI cn))] := hl
  have hF3 : ∀ w ∈ wsX30, w ∈ wsX3_readDigits := fun _ h => (List.mem_cons_of_mem _ (List.mem_append_right _ h))
  refine nr_const (v := 0) hx hb dX3_readDigits_0 rfl ?_
  refine lv_istore_n (lv' := [(2, .int (nI 0)), (0, .ref x0), (1, .int (nI cn))]) hx hb dX3_readDigits_1 rfl hl (by decide) rfl (fun ls hl => ?_)
  rw [← cpA_0 DG (dgF T ln ps) 0] at hP hD
  refine loop_w (T := Nat) (nL := 4) (fun q => q ≤ cn ∧ dc T ln cn ps = q + dc T ln (cn - q) (ps + q)) (fun q => cn - q) (fun q => [(0, .ref x0), (1, .int (nI cn)), (2, .int (nI q))]) (fun q => [(x0, .inr (3, [.int (nI ln), .int (nI (ps + q)), .int (nI kd), .int fi, .int se, .int (nI pa), .ref x1, .ref x2])), (x1, .inl (G.2 0, 4, .inl (nA (cpA DG (dgF T ln ps) 0 q)))), (x2, .inl (G.2 1, 60, .inl (nA T)))]) ?_ 0 (lv_sub hl [1, 2, 0] rfl) hP hD hS ⟨Nat.zero_le _, (Nat.zero_add _).symm⟩
  intro q ls H locs hl hP hD hS hi2 ih1
  obtain ⟨hi_0, hi_1⟩ := hi2
  have hi_0 : q ≤ cn := hi_0
  have hi_1 : dc T ln cn ps = q + dc T ln (cn - q) (ps + q) := hi_1
  have hl : lv_has ls 4 [(0, .ref x0), (1, .int (nI cn)), (2, .int (nI q))] := hl
  have hP : va_P G.1 vwCl [(x0, .inr (3, [.int (nI ln), .int (nI (ps + q)), .int (nI kd), .int fi, .int se, .int (nI pa), .ref x1, .ref x2])), (x1, .inl (G.2 0, 4, .inl (nA (cpA DG (dgF T ln ps) 0 q)))), (x2, .inl (G.2 1, 60, .inl (nA T)))] _ := hP
  have hD : va_D AA [(x0, .inr (3, [.int (nI ln), .int (nI (ps + q)), .int (nI kd), .int fi, .int se, .int (nI pa), .ref x1, .ref x2])), (x1, .inl (G.2 0, 4, .inl (nA (cpA DG (dgF T ln ps) 0 q)))), (x2, .inl (G.2 1, 60, .inl (nA T)))] := hD
  have hdl := dgt_le T ln (ps + q)
  refine lv_iload_n hx hb dX3_readDigits_2 rfl (lv_at hl 2 rfl) ?_
  refine lv_iload_n hx hb dX3_readDigits_3 rfl (lv_at hl 1 rfl) ?_
  refine br_ige (tgt := 39) hx hb dX3_readDigits_4 (by decide) (by omega) (by omega) (fun h3 => ?_) (fun h3 => ?_)
  · skip
    have e : dc T ln cn ps = q := (by have e9 : q = cn := (by omega); subst e9; rw [Nat.sub_self] at hi_1; rw [hi_1]; rfl)
    refine nr_const (v := 1) hx hb dX3_readDigits_39 rfl ?_
    refine nr_top (y := nI (bb (dc T ln cn ps = cn))) ((congrArg nI (bb_t (by omega))).symm) ?_
    exact wretz hx hb hr hlk hK hS (()) (by show va_P G.1 vwCl [(x0, .inr (3, [.int (nI ln), .int (nI (ps + dc T ln cn ps)), .int (nI kd), .int fi, .int se, .int (nI pa), .ref x1, .ref x2])), (x1, .inl (G.2 0, 4, .inl (nA (cpA DG (dgF T ln ps) 0 (dc T ln cn ps))))), (x2, .inl (G.2 1, 60, .inl (nA T)))] _; rw [e]; exact hP) (by show va_D _ [(x0, .inr (3, [.int (nI ln), .int (nI (ps + dc T ln cn ps)), .int (nI kd), .int fi, .int se, .int (nI pa), .ref x1, .ref x2])), (x1, .inl (G.2 0, 4, .inl (nA (cpA DG (dgF T ln ps) 0 (dc T ln cn ps))))), (x2, .inl (G.2 1, 60, .inl (nA T)))]; rw [e]; exact hD) rfl (⟨rfl, trivial⟩) dX3_readDigits_40
  · skip
    refine lv_iload_n hx hb dX3_readDigits_7 rfl (lv_at hl 2 rfl) ?_
    refine nr_const (v := 4) hx hb dX3_readDigits_8 rfl ?_
    refine br_ige (tgt := 39) hx hb dX3_readDigits_9 (by decide) (by omega) (by decide) (fun h4 => ?_) (fun h4 => ?_)
    · exact absurd h4 (by omega)
    · skip
      refine lv_aload_n hx hb dX3_readDigits_12 rfl (lv_at hl 0 rfl) ?_
      refine nr_const (v := 0) hx hb dX3_readDigits_13 rfl ?_
      refine nr_bi (v := 9) hx hb dX3_readDigits_14 (by decide +kernel) ?_
      refine wcVi (q := (RX3, TX3, 8)) (As := [.int (nI 0), .int (nI 9)]) (ws := [(x0, .inr (3, [.int (nI ln), .int (nI (ps + q)), .int (nI kd), .int fi, .int se, .int (nI pa), .ref x1, .ref x2])), (x1, .inl (G.2 0, 4, .inl (nA (cpA DG (dgF T ln ps) 0 q)))), (x2, .inl (G.2 1, 60, .inl (nA T)))]) (wc := [(x0, .inr (3, [.int (nI ln), .int (nI (ps + q)), .int (nI kd), .int fi, .int se, .int (nI pa), .ref x1, .ref x2])), (x1, .inl (G.2 0, 4, .inl (nA (cpA DG (dgF T ln ps) 0 q)))), (x2, .inl (G.2 1, 60, .inl (nA T)))]) (wr := []) (wn := fun _ => [(x0, .inr (3, [.int (nI ln), .int (nI ((ps + q) + bb (rdk T ln (ps + q) 0 10))), .int (nI kd), .int fi, .int se, .int (nI pa), .ref x1, .ref x2])), (x1, .inl (G.2 0, 4, .inl (nA (cpA DG (dgF T ln ps) 0 q)))), (x2, .inl (G.2 1, 60, .inl (nA T)))]) ⟨hx, hb, hml, hown, hts⟩ (c_X3_readDigit l G x0 x1 x2 ln (ps + q) kd fi se pa (cpA DG (dgF T ln ps) 0 q) T 0 (nI 9) 10 (by omega) hln hT (by omega) (bd_n (g := 10) (by decide) (by decide)).1 (bd_n (g := 10) (by decide) (by decide)).2 _) (cwV 2 hts gX3_readDigits_X3_readDigit rfl rfl rfl (by decide +kernel) ⟨Nat.le_of_ble_eq_true rfl, Nat.le_of_ble_eq_true rfl⟩) hK hP hD hS hAA [0, 1, 2] [] [0, 1, 2] rfl rfl rfl rfl (by decide) rfl (fun _ => rfl) 3 0 rfl rfl rfl hl.1 rfl (Nat.le_of_ble_eq_true rfl) dX3_readDigits_16 ⟨by first | exact Nat.le_of_ble_eq_true rfl | omega, by first | exact Nat.le_of_ble_eq_true rfl | omega⟩ (fun rr6 uu H locs hw5 hP hD hS => ?_)
      have hP : va_P G.1 vwCl [(x0, .inr (3, [.int (nI ln), .int (nI ((ps + q) + bb (rdk T ln (ps + q) 0 10))), .int (nI kd), .int fi, .int se, .int (nI pa), .ref x1, .ref x2])), (x1, .inl (G.2 0, 4, .inl (nA (cpA DG (dgF T ln ps) 0 q)))), (x2, .inl (G.2 1, 60, .inl (nA T)))] _ := hP
      have hD : va_D AA [(x0, .inr (3, [.int (nI ln), .int (nI ((ps + q) + bb (rdk T ln (ps + q) 0 10))), .int (nI kd), .int fi, .int se, .int (nI pa), .ref x1, .ref x2])), (x1, .inl (G.2 0, 4, .inl (nA (cpA DG (dgF T ln ps) 0 q)))), (x2, .inl (G.2 1, 60, .inl (nA T)))] := hD
      obtain ⟨hrhw5, hw5⟩ := hw5
      subst hrhw5
      by_cases h7 : rdk T ln (ps + q) 0 10
      · skip
        refine nr_top (rdI_p h7) ?_
        rw [bb_t h7] at hP hD
        have hP : va_P G.1 vwCl [(x0, .inr (3, [.int (nI ln), .int (nI ((ps + q) + 1)), .int (nI kd), .int fi, .int se, .int (nI pa), .ref x1, .ref x2])), (x1, .inl (G.2 0, 4, .inl (nA (cpA DG (dgF T ln ps) 0 q)))), (x2, .inl (G.2 1, 60, .inl (nA T)))] _ := hP
        have hD : va_D AA [(x0, .inr (3, [.int (nI ln), .int (nI ((ps + q) + 1)), .int (nI kd), .int fi, .int se, .int (nI pa), .ref x1, .ref x2])), (x1, .inl (G.2 0, 4, .inl (nA (cpA DG (dgF T ln ps) 0 q)))), (x2, .inl (G.2 1, 60, .inl (nA T)))] := hD
        refine lv_istore_n (lv' := [(3, .int (nI (dgt T ln (ps + q)))), (0, .ref x0), (1, .int (nI cn)), (2, .int (nI q))]) hx hb dX3_readDigits_19 rfl hl (by decide) rfl (fun ls hl => ?_)
        refine lv_iload_n hx hb dX3_readDigits_20 rfl (lv_at hl 0 rfl) ?_
        refine br_ge0 (tgt := 26) hx hb dX3_readDigits_21 (by decide) (by omega) ?_
        have hdq : rdk T ln (ps + q) 0 10 := (by assumption)
        refine lv_aload_n hx hb dX3_readDigits_26 rfl (lv_at hl 1 rfl) ?_
        refine va_get (D := G.1) (ci := 3) (v := .ref x1) (C := RX3) (T := TX3) (N := 8) hx hb hts hF3 hown hK hP 0 rfl rfl 6 (by decide) (hts (.fieldLink RX3 9 "CousinShares$OrderText" "digits" "[I") (List.mem_of_getElem? (i := 1) rfl)) (fun _ h9 => h9) rfl dX3_readDigits_27 ?_
        refine lv_iload_n hx hb dX3_readDigits_30 rfl (lv_at hl 3 rfl) ?_
        refine lv_iload_n hx hb dX3_readDigits_31 rfl (lv_at hl 0 rfl) ?_
        refine nr_top (y := nI (dgF T ln ps q)) (rfl) ?_
        refine nr_ast (ws' := [(x0, .inr (3, [.int (nI ln), .int (nI ((ps + q) + 1)), .int (nI kd), .int fi, .int se, .int (nI pa), .ref x1, .ref x2])), (x1, .inl (G.2 0, 4, .inl (nA (va_up (cpA DG (dgF T ln ps) 0 q) q (dgF T ln ps q))))), (x2, .inl (G.2 1, 60, .inl (nA T)))]) hx hb hK hP hD hS 1 rfl (by omega) (by decide) dX3_readDigits_32 rfl (fun H locs hP hD hS => ?_)
        refine nr_inc (d := 1) (v := q + 1) (lv' := [(2, .int (nI (q + 1))), (3, .int (nI (dgt T ln (ps + q)))), (0, .ref x0), (1, .int (nI cn))]) hx hb dX3_readDigits_33 hl (k := 3) rfl rfl (by decide) rfl (fun ls hl => ?_)
        refine lv_goto (tgt := 2) hx hb dX3_readDigits_36 (by decide) ?_
        rw [cpU_s] at hP hD
        exact ih1 (q + 1) ls H locs (lv_sub hl [2, 3, 0] rfl) hP hD hS ⟨by omega, by rw [hi_1, dc_s hdq.1 (by omega), show cn - q - 1 = cn - (q + 1) by omega]; show _ = q + 1 + dc T ln (cn - (q + 1)) (ps + q + 1); omega⟩ (by omega)
      · skip
        refine nr_top (rdI_n h7) ?_
        rw [bb_f h7] at hP hD
        have hP : va_P G.1 vwCl [(x0, .inr (3, [.int (nI ln), .int (nI (ps + q)), .int (nI kd), .int fi, .int se, .int (nI pa), .ref x1, .ref x2])), (x1, .inl (G.2 0, 4, .inl (nA (cpA DG (dgF T ln ps) 0 q)))), (x2, .inl (G.2 1, 60, .inl (nA T)))] _ := hP
        have hD : va_D AA [(x0, .inr (3, [.int (nI ln), .int (nI (ps + q)), .int (nI kd), .int fi, .int se, .int (nI pa), .ref x1, .ref x2])), (x1, .inl (G.2 0, 4, .inl (nA (cpA DG (dgF T ln ps) 0 q)))), (x2, .inl (G.2 1, 60, .inl (nA T)))] := hD
        refine lv_istore_n (lv' := [(3, .int (-1)), (0, .ref x0), (1, .int (nI cn)), (2, .int (nI q))]) hx hb dX3_readDigits_19 rfl hl (by decide) rfl (fun ls hl => ?_)
        refine lv_iload_n hx hb dX3_readDigits_20 rfl (lv_at hl 0 rfl) ?_
        refine lv_if_ge (tgt := 26) hx hb dX3_readDigits_21 (by decide) (fun h8 => ?_) (fun h8 => ?_)
        · exact absurd h8 (by decide)
        · skip
          have e : dc T ln cn ps = q := (by rw [hi_1, dc_0 (rdk_10 (by assumption))]; rfl)
          refine nr_const (v := 0) hx hb dX3_readDigits_24 rfl ?_
          refine nr_top (y := nI (bb (dc T ln cn ps = cn))) ((congrArg nI (bb_f (by omega))).symm) ?_
          exact wretz hx hb hr hlk hK hS (()) (by show va_P G.1 vwCl [(x0, .inr (3, [.int (nI ln), .int (nI (ps + dc T ln cn ps)), .int (nI kd), .int fi, .int se, .int (nI pa), .ref x1, .ref x2])), (x1, .inl (G.2 0, 4, .inl (nA (cpA DG (dgF T ln ps) 0 (dc T ln cn ps))))), (x2, .inl (G.2 1, 60, .inl (nA T)))] _; rw [e]; exact hP) (by show va_D _ [(x0, .inr (3, [.int (nI ln), .int (nI (ps + dc T ln cn ps)), .int (nI kd), .int fi, .int se, .int (nI pa), .ref x1, .ref x2])), (x1, .inl (G.2 0, 4, .inl (nA (cpA DG (dgF T ln ps) 0 (dc T ln cn ps))))), (x2, .inl (G.2 1, 60, .inl (nA T)))]; rw [e]; exact hD) rfl (⟨rfl, trivial⟩) dX3_readDigits_25)

set_option maxHeartbeats 4000000 in
set_option maxRecDepth 100000 in
theorem c_X3_readParty (l : Launch) (G : gG) (x0 : Nat) (x1 : Nat) (x2 : Nat) (ln : Nat) (ps : Nat) (kd : Nat) (fi : Int32) (se : Int32) (pa : Nat) (DG : Nat → Nat) (T : Nat → Nat) (hps : ps ≤ 900) (hln : ln ≤ 60) (hT : ∀ j, j < 60 → T j < 65536) (sz : Nat) : Met l yX3_readParty wsX3_readParty ({ frames := 1, cells := 0, slots := 0, locals := 23 } : Room) (WR G [(x0, .inr (3, [.int (nI ln), .int (nI ps), .int (nI kd), .int fi, .int se, .int (nI pa), .ref x1, .ref x2])), (x1, .inl (G.2 0, 4, .inl (nA DG))), (x2, .inl (G.2 1, 60, .inl (nA T)))] sz [.ref x0]) (va_Qi (fun (r : Int32) (_ : Unit) => r = nI (bb (¬ cc T ln 7 ps 0 = 0)) ∧ (True)) (WB G (va_A [(x0, .inr (3, [.int (nI ln), .int (nI ps), .int (nI kd), .int fi, .int se, .int (nI pa), .ref x1, .ref x2])), (x1, .inl (G.2 0, 4, .inl (nA DG))), (x2, .inl (G.2 1, 60, .inl (nA T)))] sz) (fun _ : Unit => [(x0, .inr (3, [.int (nI ln), .int (nI (ps + cc T ln 7 ps 0)), .int (nI kd), .int fi, .int se, .int (nI (pq T ln ps (cc T ln 7 ps 0))), .ref x1, .ref x2])), (x1, .inl (G.2 0, 4, .inl (nA DG))), (x2, .inl (G.2 1, 60, .inl (nA T)))])) (va_A [(x0, .inr (3, [.int (nI ln), .int (nI ps), .int (nI kd), .int fi, .int se, .int (nI pa), .ref x1, .ref x2])), (x1, .inl (G.2 0, 4, .inl (nA DG))), (x2, .inl (G.2 1, 60, .inl (nA T)))] sz)) 0 0 (va_A [(x0, .inr (3, [.int (nI ln), .int (nI ps), .int (nI kd), .int fi, .int se, .int (nI pa), .ref x1, .ref x2])), (x1, .inl (G.2 0, 4, .inl (nA DG))), (x2, .inl (G.2 1, 60, .inl (nA T)))] sz) := wrM (Qf := fun AA => va_Qi (fun (r : Int32) (_ : Unit) => r = nI (bb (¬ cc T ln 7 ps 0 = 0)) ∧ (True)) (WB G AA (fun _ : Unit => [(x0, .inr (3, [.int (nI ln), .int (nI (ps + cc T ln 7 ps 0)), .int (nI kd), .int fi, .int se, .int (nI (pq T ln ps (cc T ln 7 ps 0))), .ref x1, .ref x2])), (x1, .inl (G.2 0, 4, .inl (nA DG))), (x2, .inl (G.2 1, 60, .inl (nA T)))])) AA) (C := RX3) rfl (by decide) rfl (Nat.le_of_ble_eq_true rfl) (fun pX eX sX mX bX meX cX ls AA hx hb hr hts hown hlk hml hin hP hK hD hAA hS hl => by
  have hl : lv_has ls 4 [(0, .ref x0)] := hl
  have hF3 : ∀ w ∈ wsX30, w ∈ wsX3_readParty := fun _ h => (List.mem_cons_of_mem _ (List.mem_append_right _ h))
  refine lv_aload_n hx hb dX3_readParty_0 rfl (lv_at hl 0 rfl) ?_
  refine nr_const (v := 0) hx hb dX3_readParty_1 rfl ?_
  refine va_put (D := G.1) (ci := 3) (v := .int (nI 0)) (ty := .int) (C := RX3) (T := TX3) (N := 8) hx hb hts hF3 tyX3 tyX3_ok nmX3 hown hK hP hD hS 0 rfl rfl 5 (by decide) (hts (.fieldLink RX3 68 "CousinShares$OrderText" "party" "I") (List.mem_of_getElem? (i := 1) rfl)) (fun _ h9 => h9) rfl (by decide +kernel) rfl rfl (Nat.le_of_ble_eq_true rfl) dX3_readParty_2 (fun H locs hP hD hS => ?_)
  have hP : va_P G.1 vwCl [(x0, .inr (3, [.int (nI ln), .int (nI ps), .int (nI kd), .int fi, .int se, .int (nI 0), .ref x1, .ref x2])), (x1, .inl (G.2 0, 4, .inl (nA DG))), (x2, .inl (G.2 1, 60, .inl (nA T)))] _ := hP
  have hD : va_D AA [(x0, .inr (3, [.int (nI ln), .int (nI ps), .int (nI kd), .int fi, .int se, .int (nI 0), .ref x1, .ref x2])), (x1, .inl (G.2 0, 4, .inl (nA DG))), (x2, .inl (G.2 1, 60, .inl (nA T)))] := hD
  refine nr_const (v := 0) hx hb dX3_readParty_5 rfl ?_
  refine lv_istore_n (lv' := [(1, .int (nI 0)), (0, .ref x0)]) hx hb dX3_readParty_6 rfl hl (by decide) rfl (fun ls hl => ?_)
  refine nr_const (v := 0) hx hb dX3_readParty_7 rfl ?_
  refine lv_istore_n (lv' := [(2, .int (nI 0)), (1, .int (nI 0)), (0, .ref x0)]) hx hb dX3_readParty_8 rfl hl (by decide) rfl (fun ls hl => ?_)
  refine loop_w (T := Nat × Nat) (nL := 4) (fun x => x.1 ≤ x.2 ∧ x.2 ≤ 7 ∧ x.1 ≤ 7 ∧ cc T ln 7 ps 0 = x.1 + cc T ln (7 - x.1) (ps + x.1) x.2) (fun x => 7 - x.1) (fun x => [(0, .ref x0), (1, .int (nI x.2)), (2, .int (nI x.1))]) (fun x => [(x0, .inr (3, [.int (nI ln), .int (nI (ps + x.1)), .int (nI kd), .int fi, .int se, .int (nI (pq T ln ps x.1)), .ref x1, .ref x2])), (x1, .inl (G.2 0, 4, .inl (nA DG))), (x2, .inl (G.2 1, 60, .inl (nA T)))]) ?_ (0, 0) (lv_sub hl [2, 1, 0] rfl) hP hD hS ⟨Nat.le_refl _, by decide, by decide, (Nat.zero_add _).symm⟩
  intro x ls H locs hl hP hD hS hi2 ih1
  obtain ⟨hi_0, hi_1, hi_3, hi_2⟩ := hi2
  have hi_0 : x.1 ≤ x.2 := hi_0
  have hi_1 : x.2 ≤ 7 := hi_1
  have hi_3 : x.1 ≤ 7 := hi_3
  have hi_2 : cc T ln 7 ps 0 = x.1 + cc T ln (7 - x.1) (ps + x.1) x.2 := hi_2
  have hl : lv_has ls 4 [(0, .ref x0), (1, .int (nI x.2)), (2, .int (nI x.1))] := hl
  have hP : va_P G.1 vwCl [(x0, .inr (3, [.int (nI ln), .int (nI (ps + x.1)), .int (nI kd), .int fi, .int se, .int (nI (pq T ln ps x.1)), .ref x1, .ref x2])), (x1, .inl (G.2 0, 4, .inl (nA DG))), (x2, .inl (G.2 1, 60, .inl (nA T)))] _ := hP
  have hD : va_D AA [(x0, .inr (3, [.int (nI ln), .int (nI (ps + x.1)), .int (nI kd), .int fi, .int se, .int (nI (pq T ln ps x.1)), .ref x1, .ref x2])), (x1, .inl (G.2 0, 4, .inl (nA DG))), (x2, .inl (G.2 1, 60, .inl (nA T)))] := hD
  refine lv_iload_n hx hb dX3_readParty_9 rfl (lv_at hl 2 rfl) ?_
  refine nr_bi (v := 7) hx hb dX3_readParty_10 (by decide +kernel) ?_
  refine br_ige (tgt := 52) hx hb dX3_readParty_12 (by decide) (by omega) (by decide) (fun h3 => ?_) (fun h3 => ?_)
  · skip
    have e : cc T ln 7 ps 0 = x.1 := (by have e9 : x.1 = 7 := (by omega); rw [hi_2, e9]; rfl)
    have hc7 : ∀ k, k < x.1 → dgt T ln (ps + k) < 7 := fun k hk => cc_lt (f := 7) (l := 0) (by rw [e]; exact hk)
    have hpl := pq_lt hc7
    refine lv_aload_n hx hb dX3_readParty_52 rfl (lv_at hl 0 rfl) ?_
    refine va_get (D := G.1) (ci := 3) (v := .int (nI (pq T ln ps x.1))) (C := RX3) (T := TX3) (N := 8) hx hb hts hF3 hown hK hP 0 rfl rfl 5 (by decide) (hts (.fieldLink RX3 68 "CousinShares$OrderText" "party" "I") (List.mem_of_getElem? (i := 1) rfl)) (fun _ h9 => h9) rfl dX3_readParty_53 ?_
    refine br_eq0 (tgt := 63) hx hb dX3_readParty_56 (by decide) (by omega) (fun h4 => ?_) (fun h4 => ?_)
    · skip
      have hS1 : ¬ (¬ cc T ln 7 ps 0 = 0) := (fun z => by have := pq_pos (T := T) (L := ln) (j := ps) (n := x.1) (by omega) hc7; omega)
      refine nr_const (v := 0) hx hb dX3_readParty_63 rfl ?_
      refine nr_top (y := nI (bb (¬ cc T ln 7 ps 0 = 0))) ((congrArg nI (bb_f hS1)).symm) ?_
      exact wretz hx hb hr hlk hK hS (()) (by show va_P G.1 vwCl [(x0, .inr (3, [.int (nI ln), .int (nI (ps + cc T ln 7 ps 0)), .int (nI kd), .int fi, .int se, .int (nI (pq T ln ps (cc T ln 7 ps 0))), .ref x1, .ref x2])), (x1, .inl (G.2 0, 4, .inl (nA DG))), (x2, .inl (G.2 1, 60, .inl (nA T)))] _; rw [e]; exact hP) (by show va_D _ [(x0, .inr (3, [.int (nI ln), .int (nI (ps + cc T ln 7 ps 0)), .int (nI kd), .int fi, .int se, .int (nI (pq T ln ps (cc T ln 7 ps 0))), .ref x1, .ref x2])), (x1, .inl (G.2 0, 4, .inl (nA DG))), (x2, .inl (G.2 1, 60, .inl (nA T)))]; rw [e]; exact hD) rfl (⟨rfl, trivial⟩) dX3_readParty_64
    · skip
      have hS1 : ¬ cc T ln 7 ps 0 = 0 := (fun z => by have hq0 : pq T ln ps x.1 = 0 := (by rw [show x.1 = 0 by omega]; rfl); exact absurd hq0 (by assumption))
      refine nr_const (v := 1) hx hb dX3_readParty_59 rfl ?_
      refine nr_top (y := nI (bb (¬ cc T ln 7 ps 0 = 0))) ((congrArg nI (bb_t hS1)).symm) ?_
      refine lv_goto (tgt := 64) hx hb dX3_readParty_60 (by decide) ?_
      exact wretz hx hb hr hlk hK hS (()) (by show va_P G.1 vwCl [(x0, .inr (3, [.int (nI ln), .int (nI (ps + cc T ln 7 ps 0)), .int (nI kd), .int fi, .int se, .int (nI (pq T ln ps (cc T ln 7 ps 0))), .ref x1, .ref x2])), (x1, .inl (G.2 0, 4, .inl (nA DG))), (x2, .inl (G.2 1, 60, .inl (nA T)))] _; rw [e]; exact hP) (by show va_D _ [(x0, .inr (3, [.int (nI ln), .int (nI (ps + cc T ln 7 ps 0)), .int (nI kd), .int fi, .int se, .int (nI (pq T ln ps (cc T ln 7 ps 0))), .ref x1, .ref x2])), (x1, .inl (G.2 0, 4, .inl (nA DG))), (x2, .inl (G.2 1, 60, .inl (nA T)))]; rw [e]; exact hD) rfl (⟨rfl, trivial⟩) dX3_readParty_64
  · skip
    refine lv_aload_n hx hb dX3_readParty_15 rfl (lv_at hl 0 rfl) ?_
    refine lv_iload_n hx hb dX3_readParty_16 rfl (lv_at hl 1 rfl) ?_
    refine nr_bi (v := 6) hx hb dX3_readParty_17 (by decide +kernel) ?_
    refine wcVi (q := (RX3, TX3, 8)) (As := [.int (nI x.2), .int (nI 6)]) (ws := [(x0, .inr (3, [.int (nI ln), .int (nI (ps + x.1)), .int (nI kd), .int fi, .int se, .int (nI (pq T ln ps x.1)), .ref x1, .ref x2])), (x1, .inl (G.2 0, 4, .inl (nA DG))), (x2, .inl (G.2 1, 60, .inl (nA T)))]) (wc := [(x0, .inr (3, [.int (nI ln), .int (nI (ps + x.1)), .int (nI kd), .int fi, .int se, .int (nI (pq T ln ps x.1)), .ref x1, .ref x2])), (x1, .inl (G.2 0, 4, .inl (nA DG))), (x2, .inl (G.2 1, 60, .inl (nA T)))]) (wr := []) (wn := fun _ => [(x0, .inr (3, [.int (nI ln), .int (nI ((ps + x.1) + bb (rdk T ln (ps + x.1) x.2 7))), .int (nI kd), .int fi, .int se, .int (nI (pq T ln ps x.1)), .ref x1, .ref x2])), (x1, .inl (G.2 0, 4, .inl (nA DG))), (x2, .inl (G.2 1, 60, .inl (nA T)))]) ⟨hx, hb, hml, hown, hts⟩ (c_X3_readDigit l G x0 x1 x2 ln (ps + x.1) kd fi se (pq T ln ps x.1) DG T x.2 (nI 6) 7 (by omega) hln hT (by omega) (bd_n (g := 7) (by decide) (by decide)).1 (bd_n (g := 7) (by decide) (by decide)).2 _) (cwV 2 hts gX3_readParty_X3_readDigit rfl rfl rfl (by decide +kernel) ⟨Nat.le_of_ble_eq_true rfl, Nat.le_of_ble_eq_true rfl⟩) hK hP hD hS hAA [0, 1, 2] [] [0, 1, 2] rfl rfl rfl rfl (by decide) rfl (fun _ => rfl) 3 0 rfl rfl rfl hl.1 rfl (Nat.le_of_ble_eq_true rfl) dX3_readParty_19 ⟨by first | exact Nat.le_of_ble_eq_true rfl | omega, by first | exact Nat.le_of_ble_eq_true rfl | omega⟩ (fun rr6 uu H locs hw5 hP hD hS => ?_)
    have hP : va_P G.1 vwCl [(x0, .inr (3, [.int (nI ln), .int (nI ((ps + x.1) + bb (rdk T ln (ps + x.1) x.2 7))), .int (nI kd), .int fi, .int se, .int (nI (pq T ln ps x.1)), .ref x1, .ref x2])), (x1, .inl (G.2 0, 4, .inl (nA DG))), (x2, .inl (G.2 1, 60, .inl (nA T)))] _ := hP
    have hD : va_D AA [(x0, .inr (3, [.int (nI ln), .int (nI ((ps + x.1) + bb (rdk T ln (ps + x.1) x.2 7))), .int (nI kd), .int fi, .int se, .int (nI (pq T ln ps x.1)), .ref x1, .ref x2])), (x1, .inl (G.2 0, 4, .inl (nA DG))), (x2, .inl (G.2 1, 60, .inl (nA T)))] := hD
    obtain ⟨hrhw5, hw5⟩ := hw5
    subst hrhw5
    by_cases h7 : rdk T ln (ps + x.1) x.2 7
    · skip
      refine nr_top (rdI_p h7) ?_
      rw [bb_t h7] at hP hD
      have hP : va_P G.1 vwCl [(x0, .inr (3, [.int (nI ln), .int (nI ((ps + x.1) + 1)), .int (nI kd), .int fi, .int se, .int (nI (pq T ln ps x.1)), .ref x1, .ref x2])), (x1, .inl (G.2 0, 4, .inl (nA DG))), (x2, .inl (G.2 1, 60, .inl (nA T)))] _ := hP
      have hD : va_D AA [(x0, .inr (3, [.int (nI ln), .int (nI ((ps + x.1) + 1)), .int (nI kd), .int fi, .int se, .int (nI (pq T ln ps x.1)), .ref x1, .ref x2])), (x1, .inl (G.2 0, 4, .inl (nA DG))), (x2, .inl (G.2 1, 60, .inl (nA T)))] := hD
      refine lv_istore_n (lv' := [(3, .int (nI (dgt T ln (ps + x.1)))), (0, .ref x0), (1, .int (nI x.2)), (2, .int (nI x.1))]) hx hb dX3_readParty_22 rfl hl (by decide) rfl (fun ls hl => ?_)
      refine lv_iload_n hx hb dX3_readParty_23 rfl (lv_at hl 0 rfl) ?_
      refine br_ge0 (tgt := 30) hx hb dX3_readParty_24 (by decide) (by omega) ?_
      have hrk : rdk T ln (ps + x.1) x.2 7 := (by assumption)
      have hdq := hrk.2.2
      refine lv_aload_n hx hb dX3_readParty_30 rfl (lv_at hl 1 rfl) ?_
      refine lv_dup hx hb dX3_readParty_31 rfl ?_
      refine va_get (D := G.1) (ci := 3) (v := .int (nI (pq T ln ps x.1))) (C := RX3) (T := TX3) (N := 8) hx hb hts hF3 hown hK hP 0 rfl rfl 5 (by decide) (hts (.fieldLink RX3 68 "CousinShares$OrderText" "party" "I") (List.mem_of_getElem? (i := 1) rfl)) (fun _ h9 => h9) rfl dX3_readParty_32 ?_
      refine nr_const (v := 1) hx hb dX3_readParty_35 rfl ?_
      refine lv_iload_n hx hb dX3_readParty_36 rfl (lv_at hl 0 rfl) ?_
      refine lv_ishl hx hb dX3_readParty_37 ?_
      refine nr_top (bt_shl hdq) ?_
      refine lv_ior hx hb dX3_readParty_38 ?_
      refine nr_top (nI_lor _ _) ?_
      refine nr_top (y := nI (pq T ln ps (x.1 + 1))) (rfl) ?_
      refine va_put (D := G.1) (ci := 3) (v := .int (nI (pq T ln ps (x.1 + 1)))) (ty := .int) (C := RX3) (T := TX3) (N := 8) hx hb hts hF3 tyX3 tyX3_ok nmX3 hown hK hP hD hS 0 rfl rfl 5 (by decide) (hts (.fieldLink RX3 68 "CousinShares$OrderText" "party" "I") (List.mem_of_getElem? (i := 1) rfl)) (fun _ h9 => h9) rfl (by decide +kernel) rfl rfl (Nat.le_of_ble_eq_true rfl) dX3_readParty_39 (fun H locs hP hD hS => ?_)
      have hP : va_P G.1 vwCl [(x0, .inr (3, [.int (nI ln), .int (nI ((ps + x.1) + 1)), .int (nI kd), .int fi, .int se, .int (nI (pq T ln ps (x.1 + 1))), .ref x1, .ref x2])), (x1, .inl (G.2 0, 4, .inl (nA DG))), (x2, .inl (G.2 1, 60, .inl (nA T)))] _ := hP
      have hD : va_D AA [(x0, .inr (3, [.int (nI ln), .int (nI ((ps + x.1) + 1)), .int (nI kd), .int fi, .int se, .int (nI (pq T ln ps (x.1 + 1))), .ref x1, .ref x2])), (x1, .inl (G.2 0, 4, .inl (nA DG))), (x2, .inl (G.2 1, 60, .inl (nA T)))] := hD
      refine lv_iload_n hx hb dX3_readParty_42 rfl (lv_at hl 0 rfl) ?_
      refine nr_const (v := 1) hx hb dX3_readParty_43 rfl ?_
      refine nr_add hx hb dX3_readParty_44 ?_
      refine lv_istore_n (lv' := [(1, .int (nI ((dgt T ln (ps + x.1)) + 1))), (3, .int (nI (dgt T ln (ps + x.1)))), (0, .ref x0), (2, .int (nI x.1))]) hx hb dX3_readParty_45 rfl hl (by decide) rfl (fun ls hl => ?_)
      refine nr_inc (d := 1) (v := x.1 + 1) (lv' := [(2, .int (nI (x.1 + 1))), (1, .int (nI ((dgt T ln (ps + x.1)) + 1))), (3, .int (nI (dgt T ln (ps + x.1)))), (0, .ref x0)]) hx hb dX3_readParty_46 hl (k := 3) rfl rfl (by decide) rfl (fun ls hl => ?_)
      refine lv_goto (tgt := 9) hx hb dX3_readParty_49 (by decide) ?_
      exact ih1 (x.1 + 1, dgt T ln (ps + x.1) + 1) ls H locs (lv_sub hl [3, 1, 0] rfl) hP hD hS ⟨by dsimp only; omega, by dsimp only; omega, by dsimp only; omega, by dsimp only; rw [hi_2, cc_s ⟨hrk.2.1, hrk.2.2⟩ (by omega), show 7 - x.1 - 1 = 7 - (x.1 + 1) by omega]; show _ = x.1 + 1 + cc T ln (7 - (x.1 + 1)) (ps + x.1 + 1) _; omega⟩ (by dsimp only; omega)
    · skip
      refine nr_top (rdI_n h7) ?_
      rw [bb_f h7] at hP hD
      have hP : va_P G.1 vwCl [(x0, .inr (3, [.int (nI ln), .int (nI (ps + x.1)), .int (nI kd), .int fi, .int se, .int (nI (pq T ln ps x.1)), .ref x1, .ref x2])), (x1, .inl (G.2 0, 4, .inl (nA DG))), (x2, .inl (G.2 1, 60, .inl (nA T)))] _ := hP
      have hD : va_D AA [(x0, .inr (3, [.int (nI ln), .int (nI (ps + x.1)), .int (nI kd), .int fi, .int se, .int (nI (pq T ln ps x.1)), .ref x1, .ref x2])), (x1, .inl (G.2 0, 4, .inl (nA DG))), (x2, .inl (G.2 1, 60, .inl (nA T)))] := hD
      refine lv_istore_n (lv' := [(3, .int (-1)), (0, .ref x0), (1, .int (nI x.2)), (2, .int (nI x.1))]) hx hb dX3_readParty_22 rfl hl (by decide) rfl (fun ls hl => ?_)
      refine lv_iload_n hx hb dX3_readParty_23 rfl (lv_at hl 0 rfl) ?_
      refine lv_if_ge (tgt := 30) hx hb dX3_readParty_24 (by decide) (fun h8 => ?_) (fun h8 => ?_)
      · exact absurd h8 (by decide)
      · skip
        refine lv_goto (tgt := 52) hx hb dX3_readParty_27 (by decide) ?_
        have e : cc T ln 7 ps 0 = x.1 := (by rw [hi_2, cc_0 (rdk_7 h7)]; rfl)
        have hc7 : ∀ k, k < x.1 → dgt T ln (ps + k) < 7 := fun k hk => cc_lt (f := 7) (l := 0) (by rw [e]; exact hk)
        have hpl := pq_lt hc7
        refine lv_aload_n hx hb dX3_readParty_52 rfl (lv_at hl 1 rfl) ?_
        refine va_get (D := G.1) (ci := 3) (v := .int (nI (pq T ln ps x.1))) (C := RX3) (T := TX3) (N := 8) hx hb hts hF3 hown hK hP 0 rfl rfl 5 (by decide) (hts (.fieldLink RX3 68 "CousinShares$OrderText" "party" "I") (List.mem_of_getElem? (i := 1) rfl)) (fun _ h9 => h9) rfl dX3_readParty_53 ?_
        refine br_eq0 (tgt := 63) hx hb dX3_readParty_56 (by decide) (by omega) (fun h9 => ?_) (fun h9 => ?_)
        · skip
          have hS1 : ¬ (¬ cc T ln 7 ps 0 = 0) := (fun z => by have := pq_pos (T := T) (L := ln) (j := ps) (n := x.1) (by omega) hc7; omega)
          refine nr_const (v := 0) hx hb dX3_readParty_63 rfl ?_
          refine nr_top (y := nI (bb (¬ cc T ln 7 ps 0 = 0))) ((congrArg nI (bb_f hS1)).symm) ?_
          exact wretz hx hb hr hlk hK hS (()) (by show va_P G.1 vwCl [(x0, .inr (3, [.int (nI ln), .int (nI (ps + cc T ln 7 ps 0)), .int (nI kd), .int fi, .int se, .int (nI (pq T ln ps (cc T ln 7 ps 0))), .ref x1, .ref x2])), (x1, .inl (G.2 0, 4, .inl (nA DG))), (x2, .inl (G.2 1, 60, .inl (nA T)))] _; rw [e]; exact hP) (by show va_D _ [(x0, .inr (3, [.int (nI ln), .int (nI (ps + cc T ln 7 ps 0)), .int (nI kd), .int fi, .int se, .int (nI (pq T ln ps (cc T ln 7 ps 0))), .ref x1, .ref x2])), (x1, .inl (G.2 0, 4, .inl (nA DG))), (x2, .inl (G.2 1, 60, .inl (nA T)))]; rw [e]; exact hD) rfl (⟨rfl, trivial⟩) dX3_readParty_64
        · skip
          have hS1 : ¬ cc T ln 7 ps 0 = 0 := (fun z => by have hq0 : pq T ln ps x.1 = 0 := (by rw [show x.1 = 0 by omega]; rfl); exact absurd hq0 (by assumption))
          refine nr_const (v := 1) hx hb dX3_readParty_59 rfl ?_
          refine nr_top (y := nI (bb (¬ cc T ln 7 ps 0 = 0))) ((congrArg nI (bb_t hS1)).symm) ?_
          refine lv_goto (tgt := 64) hx hb dX3_readParty_60 (by decide) ?_
          exact wretz hx hb hr hlk hK hS (()) (by show va_P G.1 vwCl [(x0, .inr (3, [.int (nI ln), .int (nI (ps + cc T ln 7 ps 0)), .int (nI kd), .int fi, .int se, .int (nI (pq T ln ps (cc T ln 7 ps 0))), .ref x1, .ref x2])), (x1, .inl (G.2 0, 4, .inl (nA DG))), (x2, .inl (G.2 1, 60, .inl (nA T)))] _; rw [e]; exact hP) (by show va_D _ [(x0, .inr (3, [.int (nI ln), .int (nI (ps + cc T ln 7 ps 0)), .int (nI kd), .int fi, .int se, .int (nI (pq T ln ps (cc T ln 7 ps 0))), .ref x1, .ref x2])), (x1, .inl (G.2 0, 4, .inl (nA DG))), (x2, .inl (G.2 1, 60, .inl (nA T)))]; rw [e]; exact hD) rfl (⟨rfl, trivial⟩) dX3_readParty_64)

set_option maxHeartbeats 4000000 in
set_option maxRecDepth 100000 in
theorem c_X3_readOrder (l : Launch) (G : gG) (x0 : Nat) (x1 : Nat) (x2 : Nat) (ln : Nat) (ps : Nat) (kd : Nat) (fi : Int32) (se : Int32) (pa : Nat) (DG : Nat → Nat) (T : Nat → Nat) (hps : ps ≤ 800) (hln : ln ≤ 60) (hT : ∀ j, j < 60 → T j < 65536) (sz : Nat) : Met l yX3_readOrder wsX3_readOrder ({ frames := 2, cells := 0, slots := 0, locals := 61 } : Room) (WR G [(x0, .inr (3, [.int (nI ln), .int (nI ps), .int (nI kd), .int fi, .int se, .int (nI pa), .ref x1, .ref x2])), (x1, .inl (G.2 0, 4, .inl (nA DG))), (x2, .inl (G.2 1, 60, .inl (nA T)))] sz [.ref x0]) (va_Qi (fun (r : Int32) (u : Nat × Int32 × Int32 × Nat × (Nat → Nat)) => match u with | ⟨kd1, fi1, se1, pa1, dg1⟩ => r = nI (bb ((oE T ln ps).1 = true)) ∧ ((oE T ln ps).1 = true → ordF T ln ps kd1 fi1 se1 pa1 dg1)) (WB G (va_A [(x0, .inr (3, [.int (nI ln), .int (nI ps), .int (nI kd), .int fi, .int se, .int (nI pa), .ref x1, .ref x2])), (x1, .inl (G.2 0, 4, .inl (nA DG))), (x2, .inl (G.2 1, 60, .inl (nA T)))] sz) (fun u : Nat × Int32 × Int32 × Nat × (Nat → Nat) => match u with | ⟨kd1, fi1, se1, pa1, dg1⟩ => [(x0, .inr (3, [.int (nI ln), .int (nI ((oE T ln ps).2)), .int (nI kd1), .int fi1, .int se1, .int (nI pa1), .ref x1, .ref x2])), (x1, .inl (G.2 0, 4, .inl (nA dg1))), (x2, .inl (G.2 1, 60, .inl (nA T)))])) (va_A [(x0, .inr (3, [.int (nI ln), .int (nI ps), .int (nI kd), .int fi, .int se, .int (nI pa), .ref x1, .ref x2])), (x1, .inl (G.2 0, 4, .inl (nA DG))), (x2, .inl (G.2 1, 60, .inl (nA T)))] sz)) 0 0 (va_A [(x0, .inr (3, [.int (nI ln), .int (nI ps), .int (nI kd), .int fi, .int se, .int (nI pa), .ref x1, .ref x2])), (x1, .inl (G.2 0, 4, .inl (nA DG))), (x2, .inl (G.2 1, 60, .inl (nA T)))] sz) := wrM (Qf := fun AA => va_Qi (fun (r : Int32) (u : Nat × Int32 × Int32 × Nat × (Nat → Nat)) => match u with | ⟨kd1, fi1, se1, pa1, dg1⟩ => r = nI (bb ((oE T ln ps).1 = true)) ∧ ((oE T ln ps).1 = true → ordF T ln ps kd1 fi1 se1 pa1 dg1)) (WB G AA (fun u : Nat × Int32 × Int32 × Nat × (Nat → Nat) => match u with | ⟨kd1, fi1, se1, pa1, dg1⟩ => [(x0, .inr (3, [.int (nI ln), .int (nI ((oE T ln ps).2)), .int (nI kd1), .int fi1, .int se1, .int (nI pa1), .ref x1, .ref x2])), (x1, .inl (G.2 0, 4, .inl (nA dg1))), (x2, .inl (G.2 1, 60, .inl (nA T)))])) AA) (C := RX3) rfl (by decide) rfl (Nat.le_of_ble_eq_true rfl) (fun pX eX sX mX bX meX cX ls AA hx hb hr hts hown hlk hml hin hP hK hD hAA hS hl => by
  have hl : lv_has ls 1 [(0, .ref x0)] := hl
  have hF3 : ∀ w ∈ wsX30, w ∈ wsX3_readOrder := fun _ h => (List.mem_cons_of_mem _ (List.mem_append_right _ h))
  have hpe := pE_le T ln (ps + 1)
  have hdl1 := dgt_le T ln (ps + 1)
  refine lv_aload_n hx hb dX3_readOrder_0 rfl (lv_at hl 0 rfl) ?_
  refine nr_bi (v := 112) hx hb dX3_readOrder_1 (by decide +kernel) ?_
  refine wcVi (q := (RX3, TX3, 8)) (As := [.int (nI 112)]) (ws := [(x0, .inr (3, [.int (nI ln), .int (nI ps), .int (nI kd), .int fi, .int se, .int (nI pa), .ref x1, .ref x2])), (x1, .inl (G.2 0, 4, .inl (nA DG))), (x2, .inl (G.2 1, 60, .inl (nA T)))]) (wc := [(x0, .inr (3, [.int (nI ln), .int (nI ps), .int (nI kd), .int fi, .int se, .int (nI pa), .ref x1, .ref x2])), (x1, .inl (G.2 0, 4, .inl (nA DG))), (x2, .inl (G.2 1, 60, .inl (nA T)))]) (wr := []) (wn := fun _ => [(x0, .inr (3, [.int (nI ln), .int (nI (ps + bb (isS T ln ps 112))), .int (nI kd), .int fi, .int se, .int (nI pa), .ref x1, .ref x2])), (x1, .inl (G.2 0, 4, .inl (nA DG))), (x2, .inl (G.2 1, 60, .inl (nA T)))]) ⟨hx, hb, hml, hown, hts⟩ (c_X3_readSign l G x0 x1 x2 ln ps kd fi se pa DG T 112 (by omega) hln hT (by omega) _) (cwV 1 hts gX3_readOrder_X3_readSign rfl rfl rfl (by decide +kernel) ⟨Nat.le_of_ble_eq_true rfl, Nat.le_of_ble_eq_true rfl⟩) hK hP hD hS hAA [0, 1, 2] [] [0, 1, 2] rfl rfl rfl rfl (by decide) rfl (fun _ => rfl) 3 0 rfl rfl rfl hl.1 rfl (Nat.le_of_ble_eq_true rfl) dX3_readOrder_3 ⟨by first | exact Nat.le_of_ble_eq_true rfl | omega, by first | exact Nat.le_of_ble_eq_true rfl | omega⟩ (fun rr2 uu H locs hw1 hP hD hS => ?_)
  have hP : va_P G.1 vwCl [(x0, .inr (3, [.int (nI ln), .int (nI (ps + bb (isS T ln ps 112))), .int (nI kd), .int fi, .int se, .int (nI pa), .ref x1, .ref x2])), (x1, .inl (G.2 0, 4, .inl (nA DG))), (x2, .inl (G.2 1, 60, .inl (nA T)))] _ := hP
  have hD : va_D AA [(x0, .inr (3, [.int (nI ln), .int (nI (ps + bb (isS T ln ps 112))), .int (nI kd), .int fi, .int se, .int (nI pa), .ref x1, .ref x2])), (x1, .inl (G.2 0, 4, .inl (nA DG))), (x2, .inl (G.2 1, 60, .inl (nA T)))] := hD
  obtain ⟨hrhw1, hw1⟩ := hw1
  subst hrhw1
  by_cases h3 : isS T ln ps 112
  · skip
    refine nr_top (congrArg nI (bb_t h3)) ?_
    rw [bb_t h3] at hP hD
    have hP : va_P G.1 vwCl [(x0, .inr (3, [.int (nI ln), .int (nI (ps + 1)), .int (nI kd), .int fi, .int se, .int (nI pa), .ref x1, .ref x2])), (x1, .inl (G.2 0, 4, .inl (nA DG))), (x2, .inl (G.2 1, 60, .inl (nA T)))] _ := hP
    have hD : va_D AA [(x0, .inr (3, [.int (nI ln), .int (nI (ps + 1)), .int (nI kd), .int fi, .int se, .int (nI pa), .ref x1, .ref x2])), (x1, .inl (G.2 0, 4, .inl (nA DG))), (x2, .inl (G.2 1, 60, .inl (nA T)))] := hD
    refine br_eq0 (tgt := 44) hx hb dX3_readOrder_6 (by decide) (by decide) (fun h4 => ?_) (fun h4 => ?_)
    · exact absurd h4 (by decide)
    · skip
      refine lv_aload_n hx hb dX3_readOrder_9 rfl (lv_at hl 0 rfl) ?_
      refine nr_const (v := 0) hx hb dX3_readOrder_10 rfl ?_
      refine va_put (D := G.1) (ci := 3) (v := .int (nI 0)) (ty := .int) (C := RX3) (T := TX3) (N := 8) hx hb hts hF3 tyX3 tyX3_ok nmX3 hown hK hP hD hS 0 rfl rfl 2 (by decide) (hts (.fieldLink RX3 34 "CousinShares$OrderText" "kind" "I") (List.mem_of_getElem? (i := 1) rfl)) (fun _ h9 => h9) rfl (by decide +kernel) rfl rfl (Nat.le_of_ble_eq_true rfl) dX3_readOrder_11 (fun H locs hP hD hS => ?_)
      have hP : va_P G.1 vwCl [(x0, .inr (3, [.int (nI ln), .int (nI (ps + 1)), .int (nI 0), .int fi, .int se, .int (nI pa), .ref x1, .ref x2])), (x1, .inl (G.2 0, 4, .inl (nA DG))), (x2, .inl (G.2 1, 60, .inl (nA T)))] _ := hP
      have hD : va_D AA [(x0, .inr (3, [.int (nI ln), .int (nI (ps + 1)), .int (nI 0), .int fi, .int se, .int (nI pa), .ref x1, .ref x2])), (x1, .inl (G.2 0, 4, .inl (nA DG))), (x2, .inl (G.2 1, 60, .inl (nA T)))] := hD
      refine lv_aload_n hx hb dX3_readOrder_14 rfl (lv_at hl 0 rfl) ?_
      refine wcVi (q := (RX3, TX3, 8)) (As := []) (ws := [(x0, .inr (3, [.int (nI ln), .int (nI (ps + 1)), .int (nI 0), .int fi, .int se, .int (nI pa), .ref x1, .ref x2])), (x1, .inl (G.2 0, 4, .inl (nA DG))), (x2, .inl (G.2 1, 60, .inl (nA T)))]) (wc := [(x0, .inr (3, [.int (nI ln), .int (nI (ps + 1)), .int (nI 0), .int fi, .int se, .int (nI pa), .ref x1, .ref x2])), (x1, .inl (G.2 0, 4, .inl (nA DG))), (x2, .inl (G.2 1, 60, .inl (nA T)))]) (wr := []) (wn := fun _ => [(x0, .inr (3, [.int (nI ln), .int (nI ((pE T ln (ps + 1)).2)), .int (nI 0), .int (pF T ln (ps + 1)), .int se, .int (nI pa), .ref x1, .ref x2])), (x1, .inl (G.2 0, 4, .inl (nA DG))), (x2, .inl (G.2 1, 60, .inl (nA T)))]) ⟨hx, hb, hml, hown, hts⟩ (c_X3_readPlot l G x0 x1 x2 ln (ps + 1) 0 fi se pa DG T (by omega) hln hT _) (cwV 0 hts gX3_readOrder_X3_readPlot rfl rfl rfl (by decide +kernel) ⟨Nat.le_of_ble_eq_true rfl, Nat.le_of_ble_eq_true rfl⟩) hK hP hD hS hAA [0, 1, 2] [] [0, 1, 2] rfl rfl rfl rfl (by decide) rfl (fun _ => rfl) 3 0 rfl rfl rfl hl.1 rfl (Nat.le_of_ble_eq_true rfl) dX3_readOrder_15 ⟨by first | exact Nat.le_of_ble_eq_true rfl | omega, by first | exact Nat.le_of_ble_eq_true rfl | omega⟩ (fun rr6 uu H locs hw5 hP hD hS => ?_)
      have hP : va_P G.1 vwCl [(x0, .inr (3, [.int (nI ln), .int (nI ((pE T ln (ps + 1)).2)), .int (nI 0), .int (pF T ln (ps + 1)), .int se, .int (nI pa), .ref x1, .ref x2])), (x1, .inl (G.2 0, 4, .inl (nA DG))), (x2, .inl (G.2 1, 60, .inl (nA T)))] _ := hP
      have hD : va_D AA [(x0, .inr (3, [.int (nI ln), .int (nI ((pE T ln (ps + 1)).2)), .int (nI 0), .int (pF T ln (ps + 1)), .int se, .int (nI pa), .ref x1, .ref x2])), (x1, .inl (G.2 0, 4, .inl (nA DG))), (x2, .inl (G.2 1, 60, .inl (nA T)))] := hD
      obtain ⟨hrhw5, hw5⟩ := hw5
      subst hrhw5
      by_cases h7 : (pE T ln (ps + 1)).1 = true
      · skip
        refine nr_top (congrArg nI (bb_t h7)) ?_
        refine br_eq0 (tgt := 42) hx hb dX3_readOrder_18 (by decide) (by decide) (fun h8 => ?_) (fun h8 => ?_)
        · exact absurd h8 (by decide)
        · skip
          refine lv_aload_n hx hb dX3_readOrder_21 rfl (lv_at hl 0 rfl) ?_
          refine nr_bi (v := 61) hx hb dX3_readOrder_22 (by decide +kernel) ?_
          refine wcVi (q := (RX3, TX3, 8)) (As := [.int (nI 61)]) (ws := [(x0, .inr (3, [.int (nI ln), .int (nI ((pE T ln (ps + 1)).2)), .int (nI 0), .int (pF T ln (ps + 1)), .int se, .int (nI pa), .ref x1, .ref x2])), (x1, .inl (G.2 0, 4, .inl (nA DG))), (x2, .inl (G.2 1, 60, .inl (nA T)))]) (wc := [(x0, .inr (3, [.int (nI ln), .int (nI ((pE T ln (ps + 1)).2)), .int (nI 0), .int (pF T ln (ps + 1)), .int se, .int (nI pa), .ref x1, .ref x2])), (x1, .inl (G.2 0, 4, .inl (nA DG))), (x2, .inl (G.2 1, 60, .inl (nA T)))]) (wr := []) (wn := fun _ => [(x0, .inr (3, [.int (nI ln), .int (nI (((pE T ln (ps + 1)).2) + bb (isS T ln ((pE T ln (ps + 1)).2) 61))), .int (nI 0), .int (pF T ln (ps + 1)), .int se, .int (nI pa), .ref x1, .ref x2])), (x1, .inl (G.2 0, 4, .inl (nA DG))), (x2, .inl (G.2 1, 60, .inl (nA T)))]) ⟨hx, hb, hml, hown, hts⟩ (c_X3_readSign l G x0 x1 x2 ln ((pE T ln (ps + 1)).2) 0 (pF T ln (ps + 1)) se pa DG T 61 (by omega) hln hT (by omega) _) (cwV 1 hts gX3_readOrder_X3_readSign rfl rfl rfl (by decide +kernel) ⟨Nat.le_of_ble_eq_true rfl, Nat.le_of_ble_eq_true rfl⟩) hK hP hD hS hAA [0, 1, 2] [] [0, 1, 2] rfl rfl rfl rfl (by decide) rfl (fun _ => rfl) 3 0 rfl rfl rfl hl.1 rfl (Nat.le_of_ble_eq_true rfl) dX3_readOrder_24 ⟨by first | exact Nat.le_of_ble_eq_true rfl | omega, by first | exact Nat.le_of_ble_eq_true rfl | omega⟩ (fun rr10 uu H locs hw9 hP hD hS => ?_)
          have hP : va_P G.1 vwCl [(x0, .inr (3, [.int (nI ln), .int (nI (((pE T ln (ps + 1)).2) + bb (isS T ln ((pE T ln (ps + 1)).2) 61))), .int (nI 0), .int (pF T ln (ps + 1)), .int se, .int (nI pa), .ref x1, .ref x2])), (x1, .inl (G.2 0, 4, .inl (nA DG))), (x2, .inl (G.2 1, 60, .inl (nA T)))] _ := hP
          have hD : va_D AA [(x0, .inr (3, [.int (nI ln), .int (nI (((pE T ln (ps + 1)).2) + bb (isS T ln ((pE T ln (ps + 1)).2) 61))), .int (nI 0), .int (pF T ln (ps + 1)), .int se, .int (nI pa), .ref x1, .ref x2])), (x1, .inl (G.2 0, 4, .inl (nA DG))), (x2, .inl (G.2 1, 60, .inl (nA T)))] := hD
          obtain ⟨hrhw9, hw9⟩ := hw9
          subst hrhw9
          by_cases h11 : isS T ln ((pE T ln (ps + 1)).2) 61
          · skip
            refine nr_top (congrArg nI (bb_t h11)) ?_
            rw [bb_t h11] at hP hD
            have hP : va_P G.1 vwCl [(x0, .inr (3, [.int (nI ln), .int (nI (((pE T ln (ps + 1)).2) + 1)), .int (nI 0), .int (pF T ln (ps + 1)), .int se, .int (nI pa), .ref x1, .ref x2])), (x1, .inl (G.2 0, 4, .inl (nA DG))), (x2, .inl (G.2 1, 60, .inl (nA T)))] _ := hP
            have hD : va_D AA [(x0, .inr (3, [.int (nI ln), .int (nI (((pE T ln (ps + 1)).2) + 1)), .int (nI 0), .int (pF T ln (ps + 1)), .int se, .int (nI pa), .ref x1, .ref x2])), (x1, .inl (G.2 0, 4, .inl (nA DG))), (x2, .inl (G.2 1, 60, .inl (nA T)))] := hD
            refine br_eq0 (tgt := 42) hx hb dX3_readOrder_27 (by decide) (by decide) (fun h12 => ?_) (fun h12 => ?_)
            · exact absurd h12 (by decide)
            · skip
              refine lv_aload_n hx hb dX3_readOrder_30 rfl (lv_at hl 0 rfl) ?_
              refine nr_const (v := 4) hx hb dX3_readOrder_31 rfl ?_
              refine wcVi (q := (RX3, TX3, 8)) (As := [.int (nI 4)]) (ws := [(x0, .inr (3, [.int (nI ln), .int (nI (((pE T ln (ps + 1)).2) + 1)), .int (nI 0), .int (pF T ln (ps + 1)), .int se, .int (nI pa), .ref x1, .ref x2])), (x1, .inl (G.2 0, 4, .inl (nA DG))), (x2, .inl (G.2 1, 60, .inl (nA T)))]) (wc := [(x0, .inr (3, [.int (nI ln), .int (nI (((pE T ln (ps + 1)).2) + 1)), .int (nI 0), .int (pF T ln (ps + 1)), .int se, .int (nI pa), .ref x1, .ref x2])), (x1, .inl (G.2 0, 4, .inl (nA DG))), (x2, .inl (G.2 1, 60, .inl (nA T)))]) (wr := []) (wn := fun _ => [(x0, .inr (3, [.int (nI ln), .int (nI ((((pE T ln (ps + 1)).2) + 1) + dc T ln 4 (((pE T ln (ps + 1)).2) + 1))), .int (nI 0), .int (pF T ln (ps + 1)), .int se, .int (nI pa), .ref x1, .ref x2])), (x1, .inl (G.2 0, 4, .inl (nA (cpA DG (dgF T ln (((pE T ln (ps + 1)).2) + 1)) 0 (dc T ln 4 (((pE T ln (ps + 1)).2) + 1)))))), (x2, .inl (G.2 1, 60, .inl (nA T)))]) ⟨hx, hb, hml, hown, hts⟩ (c_X3_readDigits l G x0 x1 x2 ln (((pE T ln (ps + 1)).2) + 1) 0 (pF T ln (ps + 1)) se pa DG T 4 (by omega) hln hT (by omega) _) (cwV 1 hts gX3_readOrder_X3_readDigits rfl rfl rfl (by decide +kernel) ⟨Nat.le_of_ble_eq_true rfl, Nat.le_of_ble_eq_true rfl⟩) hK hP hD hS hAA [0, 1, 2] [] [0, 1, 2] rfl rfl rfl rfl (by decide) rfl (fun _ => rfl) 3 0 rfl rfl rfl hl.1 rfl (Nat.le_of_ble_eq_true rfl) dX3_readOrder_32 ⟨by first | exact Nat.le_of_ble_eq_true rfl | omega, by first | exact Nat.le_of_ble_eq_true rfl | omega⟩ (fun rr14 uu H locs hw13 hP hD hS => ?_)
              have hP : va_P G.1 vwCl [(x0, .inr (3, [.int (nI ln), .int (nI ((((pE T ln (ps + 1)).2) + 1) + dc T ln 4 (((pE T ln (ps + 1)).2) + 1))), .int (nI 0), .int (pF T ln (ps + 1)), .int se, .int (nI pa), .ref x1, .ref x2])), (x1, .inl (G.2 0, 4, .inl (nA (cpA DG (dgF T ln (((pE T ln (ps + 1)).2) + 1)) 0 (dc T ln 4 (((pE T ln (ps + 1)).2) + 1)))))), (x2, .inl (G.2 1, 60, .inl (nA T)))] _ := hP
              have hD : va_D AA [(x0, .inr (3, [.int (nI ln), .int (nI ((((pE T ln (ps + 1)).2) + 1) + dc T ln 4 (((pE T ln (ps + 1)).2) + 1))), .int (nI 0), .int (pF T ln (ps + 1)), .int se, .int (nI pa), .ref x1, .ref x2])), (x1, .inl (G.2 0, 4, .inl (nA (cpA DG (dgF T ln (((pE T ln (ps + 1)).2) + 1)) 0 (dc T ln 4 (((pE T ln (ps + 1)).2) + 1)))))), (x2, .inl (G.2 1, 60, .inl (nA T)))] := hD
              obtain ⟨hrhw13, hw13⟩ := hw13
              subst hrhw13
              by_cases h15 : dc T ln 4 (((pE T ln (ps + 1)).2) + 1) = 4
              · skip
                refine nr_top (congrArg nI (bb_t h15)) ?_
                refine br_eq0 (tgt := 42) hx hb dX3_readOrder_35 (by decide) (by decide) (fun h16 => ?_) (fun h16 => ?_)
                · exact absurd h16 (by decide)
                · skip
                  have h61 : isS T ln ((pE T ln (ps + 1)).2) 61 := h11
                  have hdc : dc T ln 4 ((pE T ln (ps + 1)).2 + 1) = 4 := h15
                  have e0 := (oE_p1 h3 h7).trans (dE_t2 h61 hdc)
                  have hat : (oE T ln ps).2 = (((pE T ln (ps + 1)).2) + 1) + dc T ln 4 (((pE T ln (ps + 1)).2) + 1) := (by rw [e0]; show (pE T ln (ps + 1)).2 + 4 + 1 = _; omega)
                  refine nr_const (v := 1) hx hb dX3_readOrder_38 rfl ?_
                  refine nr_top (y := nI (bb ((oE T ln ps).1 = true))) ((congrArg nI (bb_t (by rw [e0]))).symm) ?_
                  refine lv_goto (tgt := 43) hx hb dX3_readOrder_39 (by decide) ?_
                  exact wretz hx hb hr hlk hK hS ((0, (pF T ln (ps + 1)), se, pa, cpA DG (dgF T ln (((pE T ln (ps + 1)).2) + 1)) 0 (dc T ln 4 (((pE T ln (ps + 1)).2) + 1)))) (by show va_P G.1 vwCl [(x0, .inr (3, [.int (nI ln), .int (nI ((oE T ln ps).2)), .int (nI 0), .int (pF T ln (ps + 1)), .int se, .int (nI pa), .ref x1, .ref x2])), (x1, .inl (G.2 0, 4, .inl (nA (cpA DG (dgF T ln (((pE T ln (ps + 1)).2) + 1)) 0 (dc T ln 4 (((pE T ln (ps + 1)).2) + 1)))))), (x2, .inl (G.2 1, 60, .inl (nA T)))] _; rw [hat]; exact hP) (by show va_D _ [(x0, .inr (3, [.int (nI ln), .int (nI ((oE T ln ps).2)), .int (nI 0), .int (pF T ln (ps + 1)), .int se, .int (nI pa), .ref x1, .ref x2])), (x1, .inl (G.2 0, 4, .inl (nA (cpA DG (dgF T ln (((pE T ln (ps + 1)).2) + 1)) 0 (dc T ln 4 (((pE T ln (ps + 1)).2) + 1)))))), (x2, .inl (G.2 1, 60, .inl (nA T)))]; rw [hat]; exact hD) rfl (⟨rfl, fun _ => Or.inl ⟨h3, rfl, (pF_N h7).1, dgX (j := (pE T ln (ps + 1)).2) (m := 4) e0 hdc⟩⟩) dX3_readOrder_43
              · skip
                refine nr_top (congrArg nI (bb_f h15)) ?_
                refine br_eq0 (tgt := 42) hx hb dX3_readOrder_35 (by decide) (by decide) (fun h17 => ?_) (fun h17 => ?_)
                · skip
                  have h61 : isS T ln ((pE T ln (ps + 1)).2) 61 := h11
                  have e0 := (oE_p1 h3 h7).trans (dE_f2 h61 h15)
                  refine nr_const (v := 0) hx hb dX3_readOrder_42 rfl ?_
                  refine nr_top (y := nI (bb ((oE T ln ps).1 = true))) ((congrArg nI (bb_f (by rw [e0]; exact Bool.false_ne_true))).symm) ?_
                  exact wretz hx hb hr hlk hK hS ((0, (pF T ln (ps + 1)), se, pa, cpA DG (dgF T ln (((pE T ln (ps + 1)).2) + 1)) 0 (dc T ln 4 (((pE T ln (ps + 1)).2) + 1)))) (by show va_P G.1 vwCl [(x0, .inr (3, [.int (nI ln), .int (nI ((oE T ln ps).2)), .int (nI 0), .int (pF T ln (ps + 1)), .int se, .int (nI pa), .ref x1, .ref x2])), (x1, .inl (G.2 0, 4, .inl (nA (cpA DG (dgF T ln (((pE T ln (ps + 1)).2) + 1)) 0 (dc T ln 4 (((pE T ln (ps + 1)).2) + 1)))))), (x2, .inl (G.2 1, 60, .inl (nA T)))] _; rw [e0]; exact hP) (by show va_D _ [(x0, .inr (3, [.int (nI ln), .int (nI ((oE T ln ps).2)), .int (nI 0), .int (pF T ln (ps + 1)), .int se, .int (nI pa), .ref x1, .ref x2])), (x1, .inl (G.2 0, 4, .inl (nA (cpA DG (dgF T ln (((pE T ln (ps + 1)).2) + 1)) 0 (dc T ln 4 (((pE T ln (ps + 1)).2) + 1)))))), (x2, .inl (G.2 1, 60, .inl (nA T)))]; rw [e0]; exact hD) rfl (⟨rfl, fun q => absurd q (by rw [e0]; exact Bool.false_ne_true)⟩) dX3_readOrder_43
                · exact absurd (by decide) h17
          · skip
            refine nr_top (congrArg nI (bb_f h11)) ?_
            rw [bb_f h11] at hP hD
            have hP : va_P G.1 vwCl [(x0, .inr (3, [.int (nI ln), .int (nI ((pE T ln (ps + 1)).2)), .int (nI 0), .int (pF T ln (ps + 1)), .int se, .int (nI pa), .ref x1, .ref x2])), (x1, .inl (G.2 0, 4, .inl (nA DG))), (x2, .inl (G.2 1, 60, .inl (nA T)))] _ := hP
            have hD : va_D AA [(x0, .inr (3, [.int (nI ln), .int (nI ((pE T ln (ps + 1)).2)), .int (nI 0), .int (pF T ln (ps + 1)), .int se, .int (nI pa), .ref x1, .ref x2])), (x1, .inl (G.2 0, 4, .inl (nA DG))), (x2, .inl (G.2 1, 60, .inl (nA T)))] := hD
            refine br_eq0 (tgt := 42) hx hb dX3_readOrder_27 (by decide) (by decide) (fun h18 => ?_) (fun h18 => ?_)
            · skip
              have e0 := (oE_p1 h3 h7).trans (dE_f1 h11)
              refine nr_const (v := 0) hx hb dX3_readOrder_42 rfl ?_
              refine nr_top (y := nI (bb ((oE T ln ps).1 = true))) ((congrArg nI (bb_f (by rw [e0]; exact Bool.false_ne_true))).symm) ?_
              exact wretz hx hb hr hlk hK hS ((0, (pF T ln (ps + 1)), se, pa, DG)) (by show va_P G.1 vwCl [(x0, .inr (3, [.int (nI ln), .int (nI ((oE T ln ps).2)), .int (nI 0), .int (pF T ln (ps + 1)), .int se, .int (nI pa), .ref x1, .ref x2])), (x1, .inl (G.2 0, 4, .inl (nA DG))), (x2, .inl (G.2 1, 60, .inl (nA T)))] _; rw [e0]; exact hP) (by show va_D _ [(x0, .inr (3, [.int (nI ln), .int (nI ((oE T ln ps).2)), .int (nI 0), .int (pF T ln (ps + 1)), .int se, .int (nI pa), .ref x1, .ref x2])), (x1, .inl (G.2 0, 4, .inl (nA DG))), (x2, .inl (G.2 1, 60, .inl (nA T)))]; rw [e0]; exact hD) rfl (⟨rfl, fun q => absurd q (by rw [e0]; exact Bool.false_ne_true)⟩) dX3_readOrder_43
            · exact absurd (by decide) h18
      · skip
        refine nr_top (congrArg nI (bb_f h7)) ?_
        refine br_eq0 (tgt := 42) hx hb dX3_readOrder_18 (by decide) (by decide) (fun h19 => ?_) (fun h19 => ?_)
        · skip
          have e0 := oE_p0 h3 h7
          refine nr_const (v := 0) hx hb dX3_readOrder_42 rfl ?_
          refine nr_top (y := nI (bb ((oE T ln ps).1 = true))) ((congrArg nI (bb_f (by rw [e0]; exact Bool.false_ne_true))).symm) ?_
          exact wretz hx hb hr hlk hK hS ((0, pF T ln (ps + 1), se, pa, DG)) (by show va_P G.1 vwCl [(x0, .inr (3, [.int (nI ln), .int (nI ((oE T ln ps).2)), .int (nI 0), .int (pF T ln (ps + 1)), .int se, .int (nI pa), .ref x1, .ref x2])), (x1, .inl (G.2 0, 4, .inl (nA DG))), (x2, .inl (G.2 1, 60, .inl (nA T)))] _; rw [e0]; exact hP) (by show va_D _ [(x0, .inr (3, [.int (nI ln), .int (nI ((oE T ln ps).2)), .int (nI 0), .int (pF T ln (ps + 1)), .int se, .int (nI pa), .ref x1, .ref x2])), (x1, .inl (G.2 0, 4, .inl (nA DG))), (x2, .inl (G.2 1, 60, .inl (nA T)))]; rw [e0]; exact hD) rfl (⟨rfl, fun q => absurd q (by rw [e0]; exact Bool.false_ne_true)⟩) dX3_readOrder_43
        · exact absurd (by decide) h19
  · skip
    refine nr_top (congrArg nI (bb_f h3)) ?_
    rw [bb_f h3] at hP hD
    have hP : va_P G.1 vwCl [(x0, .inr (3, [.int (nI ln), .int (nI ps), .int (nI kd), .int fi, .int se, .int (nI pa), .ref x1, .ref x2])), (x1, .inl (G.2 0, 4, .inl (nA DG))), (x2, .inl (G.2 1, 60, .inl (nA T)))] _ := hP
    have hD : va_D AA [(x0, .inr (3, [.int (nI ln), .int (nI ps), .int (nI kd), .int fi, .int se, .int (nI pa), .ref x1, .ref x2])), (x1, .inl (G.2 0, 4, .inl (nA DG))), (x2, .inl (G.2 1, 60, .inl (nA T)))] := hD
    refine br_eq0 (tgt := 44) hx hb dX3_readOrder_6 (by decide) (by decide) (fun h20 => ?_) (fun h20 => ?_)
    · skip
      refine lv_aload_n hx hb dX3_readOrder_44 rfl (lv_at hl 0 rfl) ?_
      refine nr_bi (v := 119) hx hb dX3_readOrder_45 (by decide +kernel) ?_
      refine wcVi (q := (RX3, TX3, 8)) (As := [.int (nI 119)]) (ws := [(x0, .inr (3, [.int (nI ln), .int (nI ps), .int (nI kd), .int fi, .int se, .int (nI pa), .ref x1, .ref x2])), (x1, .inl (G.2 0, 4, .inl (nA DG))), (x2, .inl (G.2 1, 60, .inl (nA T)))]) (wc := [(x0, .inr (3, [.int (nI ln), .int (nI ps), .int (nI kd), .int fi, .int se, .int (nI pa), .ref x1, .ref x2])), (x1, .inl (G.2 0, 4, .inl (nA DG))), (x2, .inl (G.2 1, 60, .inl (nA T)))]) (wr := []) (wn := fun _ => [(x0, .inr (3, [.int (nI ln), .int (nI (ps + bb (isS T ln ps 119))), .int (nI kd), .int fi, .int se, .int (nI pa), .ref x1, .ref x2])), (x1, .inl (G.2 0, 4, .inl (nA DG))), (x2, .inl (G.2 1, 60, .inl (nA T)))]) ⟨hx, hb, hml, hown, hts⟩ (c_X3_readSign l G x0 x1 x2 ln ps kd fi se pa DG T 119 (by omega) hln hT (by omega) _) (cwV 1 hts gX3_readOrder_X3_readSign rfl rfl rfl (by decide +kernel) ⟨Nat.le_of_ble_eq_true rfl, Nat.le_of_ble_eq_true rfl⟩) hK hP hD hS hAA [0, 1, 2] [] [0, 1, 2] rfl rfl rfl rfl (by decide) rfl (fun _ => rfl) 3 0 rfl rfl rfl hl.1 rfl (Nat.le_of_ble_eq_true rfl) dX3_readOrder_47 ⟨by first | exact Nat.le_of_ble_eq_true rfl | omega, by first | exact Nat.le_of_ble_eq_true rfl | omega⟩ (fun rr22 uu H locs hw21 hP hD hS => ?_)
      have hP : va_P G.1 vwCl [(x0, .inr (3, [.int (nI ln), .int (nI (ps + bb (isS T ln ps 119))), .int (nI kd), .int fi, .int se, .int (nI pa), .ref x1, .ref x2])), (x1, .inl (G.2 0, 4, .inl (nA DG))), (x2, .inl (G.2 1, 60, .inl (nA T)))] _ := hP
      have hD : va_D AA [(x0, .inr (3, [.int (nI ln), .int (nI (ps + bb (isS T ln ps 119))), .int (nI kd), .int fi, .int se, .int (nI pa), .ref x1, .ref x2])), (x1, .inl (G.2 0, 4, .inl (nA DG))), (x2, .inl (G.2 1, 60, .inl (nA T)))] := hD
      obtain ⟨hrhw21, hw21⟩ := hw21
      subst hrhw21
      by_cases h23 : isS T ln ps 119
      · skip
        refine nr_top (congrArg nI (bb_t h23)) ?_
        rw [bb_t h23] at hP hD
        have hP : va_P G.1 vwCl [(x0, .inr (3, [.int (nI ln), .int (nI (ps + 1)), .int (nI kd), .int fi, .int se, .int (nI pa), .ref x1, .ref x2])), (x1, .inl (G.2 0, 4, .inl (nA DG))), (x2, .inl (G.2 1, 60, .inl (nA T)))] _ := hP
        have hD : va_D AA [(x0, .inr (3, [.int (nI ln), .int (nI (ps + 1)), .int (nI kd), .int fi, .int se, .int (nI pa), .ref x1, .ref x2])), (x1, .inl (G.2 0, 4, .inl (nA DG))), (x2, .inl (G.2 1, 60, .inl (nA T)))] := hD
        refine br_eq0 (tgt := 88) hx hb dX3_readOrder_50 (by decide) (by decide) (fun h24 => ?_) (fun h24 => ?_)
        · exact absurd h24 (by decide)
        · skip
          refine lv_aload_n hx hb dX3_readOrder_53 rfl (lv_at hl 0 rfl) ?_
          refine nr_const (v := 1) hx hb dX3_readOrder_54 rfl ?_
          refine va_put (D := G.1) (ci := 3) (v := .int (nI 1)) (ty := .int) (C := RX3) (T := TX3) (N := 8) hx hb hts hF3 tyX3 tyX3_ok nmX3 hown hK hP hD hS 0 rfl rfl 2 (by decide) (hts (.fieldLink RX3 34 "CousinShares$OrderText" "kind" "I") (List.mem_of_getElem? (i := 1) rfl)) (fun _ h9 => h9) rfl (by decide +kernel) rfl rfl (Nat.le_of_ble_eq_true rfl) dX3_readOrder_55 (fun H locs hP hD hS => ?_)
          have hP : va_P G.1 vwCl [(x0, .inr (3, [.int (nI ln), .int (nI (ps + 1)), .int (nI 1), .int fi, .int se, .int (nI pa), .ref x1, .ref x2])), (x1, .inl (G.2 0, 4, .inl (nA DG))), (x2, .inl (G.2 1, 60, .inl (nA T)))] _ := hP
          have hD : va_D AA [(x0, .inr (3, [.int (nI ln), .int (nI (ps + 1)), .int (nI 1), .int fi, .int se, .int (nI pa), .ref x1, .ref x2])), (x1, .inl (G.2 0, 4, .inl (nA DG))), (x2, .inl (G.2 1, 60, .inl (nA T)))] := hD
          refine lv_aload_n hx hb dX3_readOrder_58 rfl (lv_at hl 0 rfl) ?_
          refine wcVi (q := (RX3, TX3, 8)) (As := []) (ws := [(x0, .inr (3, [.int (nI ln), .int (nI (ps + 1)), .int (nI 1), .int fi, .int se, .int (nI pa), .ref x1, .ref x2])), (x1, .inl (G.2 0, 4, .inl (nA DG))), (x2, .inl (G.2 1, 60, .inl (nA T)))]) (wc := [(x0, .inr (3, [.int (nI ln), .int (nI (ps + 1)), .int (nI 1), .int fi, .int se, .int (nI pa), .ref x1, .ref x2])), (x1, .inl (G.2 0, 4, .inl (nA DG))), (x2, .inl (G.2 1, 60, .inl (nA T)))]) (wr := []) (wn := fun _ => [(x0, .inr (3, [.int (nI ln), .int (nI ((ps + 1) + bb (rdk T ln (ps + 1) 0 7))), .int (nI 1), .int (rdI T ln (ps + 1) 0 7), .int se, .int (nI pa), .ref x1, .ref x2])), (x1, .inl (G.2 0, 4, .inl (nA DG))), (x2, .inl (G.2 1, 60, .inl (nA T)))]) ⟨hx, hb, hml, hown, hts⟩ (c_X3_readCousin l G x0 x1 x2 ln (ps + 1) 1 fi se pa DG T (by omega) hln hT _) (cwV 0 hts gX3_readOrder_X3_readCousin rfl rfl rfl (by decide +kernel) ⟨Nat.le_of_ble_eq_true rfl, Nat.le_of_ble_eq_true rfl⟩) hK hP hD hS hAA [0, 1, 2] [] [0, 1, 2] rfl rfl rfl rfl (by decide) rfl (fun _ => rfl) 3 0 rfl rfl rfl hl.1 rfl (Nat.le_of_ble_eq_true rfl) dX3_readOrder_59 ⟨by first | exact Nat.le_of_ble_eq_true rfl | omega, by first | exact Nat.le_of_ble_eq_true rfl | omega⟩ (fun rr26 uu H locs hw25 hP hD hS => ?_)
          have hP : va_P G.1 vwCl [(x0, .inr (3, [.int (nI ln), .int (nI ((ps + 1) + bb (rdk T ln (ps + 1) 0 7))), .int (nI 1), .int (rdI T ln (ps + 1) 0 7), .int se, .int (nI pa), .ref x1, .ref x2])), (x1, .inl (G.2 0, 4, .inl (nA DG))), (x2, .inl (G.2 1, 60, .inl (nA T)))] _ := hP
          have hD : va_D AA [(x0, .inr (3, [.int (nI ln), .int (nI ((ps + 1) + bb (rdk T ln (ps + 1) 0 7))), .int (nI 1), .int (rdI T ln (ps + 1) 0 7), .int se, .int (nI pa), .ref x1, .ref x2])), (x1, .inl (G.2 0, 4, .inl (nA DG))), (x2, .inl (G.2 1, 60, .inl (nA T)))] := hD
          obtain ⟨hrhw25, hw25⟩ := hw25
          subst hrhw25
          by_cases h27 : rdk T ln (ps + 1) 0 7
          · skip
            refine nr_top (congrArg nI (bb_t h27)) ?_
            rw [bb_t h27] at hP hD
            rw [rdI_p h27] at hP hD
            have hP : va_P G.1 vwCl [(x0, .inr (3, [.int (nI ln), .int (nI ((ps + 1) + 1)), .int (nI 1), .int (nI (dgt T ln (ps + 1))), .int se, .int (nI pa), .ref x1, .ref x2])), (x1, .inl (G.2 0, 4, .inl (nA DG))), (x2, .inl (G.2 1, 60, .inl (nA T)))] _ := hP
            have hD : va_D AA [(x0, .inr (3, [.int (nI ln), .int (nI ((ps + 1) + 1)), .int (nI 1), .int (nI (dgt T ln (ps + 1))), .int se, .int (nI pa), .ref x1, .ref x2])), (x1, .inl (G.2 0, 4, .inl (nA DG))), (x2, .inl (G.2 1, 60, .inl (nA T)))] := hD
            refine br_eq0 (tgt := 86) hx hb dX3_readOrder_62 (by decide) (by decide) (fun h28 => ?_) (fun h28 => ?_)
            · exact absurd h28 (by decide)
            · skip
              refine lv_aload_n hx hb dX3_readOrder_65 rfl (lv_at hl 0 rfl) ?_
              refine nr_bi (v := 61) hx hb dX3_readOrder_66 (by decide +kernel) ?_
              refine wcVi (q := (RX3, TX3, 8)) (As := [.int (nI 61)]) (ws := [(x0, .inr (3, [.int (nI ln), .int (nI ((ps + 1) + 1)), .int (nI 1), .int (nI (dgt T ln (ps + 1))), .int se, .int (nI pa), .ref x1, .ref x2])), (x1, .inl (G.2 0, 4, .inl (nA DG))), (x2, .inl (G.2 1, 60, .inl (nA T)))]) (wc := [(x0, .inr (3, [.int (nI ln), .int (nI ((ps + 1) + 1)), .int (nI 1), .int (nI (dgt T ln (ps + 1))), .int se, .int (nI pa), .ref x1, .ref x2])), (x1, .inl (G.2 0, 4, .inl (nA DG))), (x2, .inl (G.2 1, 60, .inl (nA T)))]) (wr := []) (wn := fun _ => [(x0, .inr (3, [.int (nI ln), .int (nI (((ps + 1) + 1) + bb (isS T ln ((ps + 1) + 1) 61))), .int (nI 1), .int (nI (dgt T ln (ps + 1))), .int se, .int (nI pa), .ref x1, .ref x2])), (x1, .inl (G.2 0, 4, .inl (nA DG))), (x2, .inl (G.2 1, 60, .inl (nA T)))]) ⟨hx, hb, hml, hown, hts⟩ (c_X3_readSign l G x0 x1 x2 ln ((ps + 1) + 1) 1 (nI (dgt T ln (ps + 1))) se pa DG T 61 (by omega) hln hT (by omega) _) (cwV 1 hts gX3_readOrder_X3_readSign rfl rfl rfl (by decide +kernel) ⟨Nat.le_of_ble_eq_true rfl, Nat.le_of_ble_eq_true rfl⟩) hK hP hD hS hAA [0, 1, 2] [] [0, 1, 2] rfl rfl rfl rfl (by decide) rfl (fun _ => rfl) 3 0 rfl rfl rfl hl.1 rfl (Nat.le_of_ble_eq_true rfl) dX3_readOrder_68 ⟨by first | exact Nat.le_of_ble_eq_true rfl | omega, by first | exact Nat.le_of_ble_eq_true rfl | omega⟩ (fun rr30 uu H locs hw29 hP hD hS => ?_)
              have hP : va_P G.1 vwCl [(x0, .inr (3, [.int (nI ln), .int (nI (((ps + 1) + 1) + bb (isS T ln ((ps + 1) + 1) 61))), .int (nI 1), .int (nI (dgt T ln (ps + 1))), .int se, .int (nI pa), .ref x1, .ref x2])), (x1, .inl (G.2 0, 4, .inl (nA DG))), (x2, .inl (G.2 1, 60, .inl (nA T)))] _ := hP
              have hD : va_D AA [(x0, .inr (3, [.int (nI ln), .int (nI (((ps + 1) + 1) + bb (isS T ln ((ps + 1) + 1) 61))), .int (nI 1), .int (nI (dgt T ln (ps + 1))), .int se, .int (nI pa), .ref x1, .ref x2])), (x1, .inl (G.2 0, 4, .inl (nA DG))), (x2, .inl (G.2 1, 60, .inl (nA T)))] := hD
              obtain ⟨hrhw29, hw29⟩ := hw29
              subst hrhw29
              by_cases h31 : isS T ln ((ps + 1) + 1) 61
              · skip
                refine nr_top (congrArg nI (bb_t h31)) ?_
                rw [bb_t h31] at hP hD
                have hP : va_P G.1 vwCl [(x0, .inr (3, [.int (nI ln), .int (nI (((ps + 1) + 1) + 1)), .int (nI 1), .int (nI (dgt T ln (ps + 1))), .int se, .int (nI pa), .ref x1, .ref x2])), (x1, .inl (G.2 0, 4, .inl (nA DG))), (x2, .inl (G.2 1, 60, .inl (nA T)))] _ := hP
                have hD : va_D AA [(x0, .inr (3, [.int (nI ln), .int (nI (((ps + 1) + 1) + 1)), .int (nI 1), .int (nI (dgt T ln (ps + 1))), .int se, .int (nI pa), .ref x1, .ref x2])), (x1, .inl (G.2 0, 4, .inl (nA DG))), (x2, .inl (G.2 1, 60, .inl (nA T)))] := hD
                refine br_eq0 (tgt := 86) hx hb dX3_readOrder_71 (by decide) (by decide) (fun h32 => ?_) (fun h32 => ?_)
                · exact absurd h32 (by decide)
                · skip
                  refine lv_aload_n hx hb dX3_readOrder_74 rfl (lv_at hl 0 rfl) ?_
                  refine nr_const (v := 4) hx hb dX3_readOrder_75 rfl ?_
                  refine wcVi (q := (RX3, TX3, 8)) (As := [.int (nI 4)]) (ws := [(x0, .inr (3, [.int (nI ln), .int (nI (((ps + 1) + 1) + 1)), .int (nI 1), .int (nI (dgt T ln (ps + 1))), .int se, .int (nI pa), .ref x1, .ref x2])), (x1, .inl (G.2 0, 4, .inl (nA DG))), (x2, .inl (G.2 1, 60, .inl (nA T)))]) (wc := [(x0, .inr (3, [.int (nI ln), .int (nI (((ps + 1) + 1) + 1)), .int (nI 1), .int (nI (dgt T ln (ps + 1))), .int se, .int (nI pa), .ref x1, .ref x2])), (x1, .inl (G.2 0, 4, .inl (nA DG))), (x2, .inl (G.2 1, 60, .inl (nA T)))]) (wr := []) (wn := fun _ => [(x0, .inr (3, [.int (nI ln), .int (nI ((((ps + 1) + 1) + 1) + dc T ln 4 (((ps + 1) + 1) + 1))), .int (nI 1), .int (nI (dgt T ln (ps + 1))), .int se, .int (nI pa), .ref x1, .ref x2])), (x1, .inl (G.2 0, 4, .inl (nA (cpA DG (dgF T ln (((ps + 1) + 1) + 1)) 0 (dc T ln 4 (((ps + 1) + 1) + 1)))))), (x2, .inl (G.2 1, 60, .inl (nA T)))]) ⟨hx, hb, hml, hown, hts⟩ (c_X3_readDigits l G x0 x1 x2 ln (((ps + 1) + 1) + 1) 1 (nI (dgt T ln (ps + 1))) se pa DG T 4 (by omega) hln hT (by omega) _) (cwV 1 hts gX3_readOrder_X3_readDigits rfl rfl rfl (by decide +kernel) ⟨Nat.le_of_ble_eq_true rfl, Nat.le_of_ble_eq_true rfl⟩) hK hP hD hS hAA [0, 1, 2] [] [0, 1, 2] rfl rfl rfl rfl (by decide) rfl (fun _ => rfl) 3 0 rfl rfl rfl hl.1 rfl (Nat.le_of_ble_eq_true rfl) dX3_readOrder_76 ⟨by first | exact Nat.le_of_ble_eq_true rfl | omega, by first | exact Nat.le_of_ble_eq_true rfl | omega⟩ (fun rr34 uu H locs hw33 hP hD hS => ?_)
                  have hP : va_P G.1 vwCl [(x0, .inr (3, [.int (nI ln), .int (nI ((((ps + 1) + 1) + 1) + dc T ln 4 (((ps + 1) + 1) + 1))), .int (nI 1), .int (nI (dgt T ln (ps + 1))), .int se, .int (nI pa), .ref x1, .ref x2])), (x1, .inl (G.2 0, 4, .inl (nA (cpA DG (dgF T ln (((ps + 1) + 1) + 1)) 0 (dc T ln 4 (((ps + 1) + 1) + 1)))))), (x2, .inl (G.2 1, 60, .inl (nA T)))] _ := hP
                  have hD : va_D AA [(x0, .inr (3, [.int (nI ln), .int (nI ((((ps + 1) + 1) + 1) + dc T ln 4 (((ps + 1) + 1) + 1))), .int (nI 1), .int (nI (dgt T ln (ps + 1))), .int se, .int (nI pa), .ref x1, .ref x2])), (x1, .inl (G.2 0, 4, .inl (nA (cpA DG (dgF T ln (((ps + 1) + 1) + 1)) 0 (dc T ln 4 (((ps + 1) + 1) + 1)))))), (x2, .inl (G.2 1, 60, .inl (nA T)))] := hD
                  obtain ⟨hrhw33, hw33⟩ := hw33
                  subst hrhw33
                  by_cases h35 : dc T ln 4 (((ps + 1) + 1) + 1) = 4
                  · skip
                    refine nr_top (congrArg nI (bb_t h35)) ?_
                    refine br_eq0 (tgt := 86) hx hb dX3_readOrder_79 (by decide) (by decide) (fun h36 => ?_) (fun h36 => ?_)
                    · exact absurd h36 (by decide)
                    · skip
                      have h61 : isS T ln (ps + 2) 61 := h31
                      have hdc : dc T ln 4 (ps + 2 + 1) = 4 := h35
                      have e0 := (oE_w1 h23 h27).trans (dE_t2 h61 hdc)
                      have hat : (oE T ln ps).2 = (((ps + 1) + 1) + 1) + dc T ln 4 (((ps + 1) + 1) + 1) := (by rw [e0]; show ps + 2 + 4 + 1 = _; omega)
                      refine nr_const (v := 1) hx hb dX3_readOrder_82 rfl ?_
                      refine nr_top (y := nI (bb ((oE T ln ps).1 = true))) ((congrArg nI (bb_t (by rw [e0]))).symm) ?_
                      refine lv_goto (tgt := 87) hx hb dX3_readOrder_83 (by decide) ?_
                      exact wretz hx hb hr hlk hK hS ((1, (nI (dgt T ln (ps + 1))), se, pa, cpA DG (dgF T ln (((ps + 1) + 1) + 1)) 0 (dc T ln 4 (((ps + 1) + 1) + 1)))) (by show va_P G.1 vwCl [(x0, .inr (3, [.int (nI ln), .int (nI ((oE T ln ps).2)), .int (nI 1), .int (nI (dgt T ln (ps + 1))), .int se, .int (nI pa), .ref x1, .ref x2])), (x1, .inl (G.2 0, 4, .inl (nA (cpA DG (dgF T ln (((ps + 1) + 1) + 1)) 0 (dc T ln 4 (((ps + 1) + 1) + 1)))))), (x2, .inl (G.2 1, 60, .inl (nA T)))] _; rw [hat]; exact hP) (by show va_D _ [(x0, .inr (3, [.int (nI ln), .int (nI ((oE T ln ps).2)), .int (nI 1), .int (nI (dgt T ln (ps + 1))), .int se, .int (nI pa), .ref x1, .ref x2])), (x1, .inl (G.2 0, 4, .inl (nA (cpA DG (dgF T ln (((ps + 1) + 1) + 1)) 0 (dc T ln 4 (((ps + 1) + 1) + 1)))))), (x2, .inl (G.2 1, 60, .inl (nA T)))]; rw [hat]; exact hD) rfl (⟨rfl, fun _ => Or.inr (Or.inl ⟨h23, rfl, rfl, dgX (j := ps + 2) (m := 4) e0 hdc⟩)⟩) dX3_readOrder_87
                  · skip
                    refine nr_top (congrArg nI (bb_f h35)) ?_
                    refine br_eq0 (tgt := 86) hx hb dX3_readOrder_79 (by decide) (by decide) (fun h37 => ?_) (fun h37 => ?_)
                    · skip
                      have h61 : isS T ln (ps + 2) 61 := h31
                      have e0 := (oE_w1 h23 h27).trans (dE_f2 h61 h35)
                      refine nr_const (v := 0) hx hb dX3_readOrder_86 rfl ?_
                      refine nr_top (y := nI (bb ((oE T ln ps).1 = true))) ((congrArg nI (bb_f (by rw [e0]; exact Bool.false_ne_true))).symm) ?_
                      exact wretz hx hb hr hlk hK hS ((1, (nI (dgt T ln (ps + 1))), se, pa, cpA DG (dgF T ln (((ps + 1) + 1) + 1)) 0 (dc T ln 4 (((ps + 1) + 1) + 1)))) (by show va_P G.1 vwCl [(x0, .inr (3, [.int (nI ln), .int (nI ((oE T ln ps).2)), .int (nI 1), .int (nI (dgt T ln (ps + 1))), .int se, .int (nI pa), .ref x1, .ref x2])), (x1, .inl (G.2 0, 4, .inl (nA (cpA DG (dgF T ln (((ps + 1) + 1) + 1)) 0 (dc T ln 4 (((ps + 1) + 1) + 1)))))), (x2, .inl (G.2 1, 60, .inl (nA T)))] _; rw [e0]; exact hP) (by show va_D _ [(x0, .inr (3, [.int (nI ln), .int (nI ((oE T ln ps).2)), .int (nI 1), .int (nI (dgt T ln (ps + 1))), .int se, .int (nI pa), .ref x1, .ref x2])), (x1, .inl (G.2 0, 4, .inl (nA (cpA DG (dgF T ln (((ps + 1) + 1) + 1)) 0 (dc T ln 4 (((ps + 1) + 1) + 1)))))), (x2, .inl (G.2 1, 60, .inl (nA T)))]; rw [e0]; exact hD) rfl (⟨rfl, fun q => absurd q (by rw [e0]; exact Bool.false_ne_true)⟩) dX3_readOrder_87
                    · exact absurd (by decide) h37
              · skip
                refine nr_top (congrArg nI (bb_f h31)) ?_
                rw [bb_f h31] at hP hD
                have hP : va_P G.1 vwCl [(x0, .inr (3, [.int (nI ln), .int (nI ((ps + 1) + 1)), .int (nI 1), .int (nI (dgt T ln (ps + 1))), .int se, .int (nI pa), .ref x1, .ref x2])), (x1, .inl (G.2 0, 4, .inl (nA DG))), (x2, .inl (G.2 1, 60, .inl (nA T)))] _ := hP
                have hD : va_D AA [(x0, .inr (3, [.int (nI ln), .int (nI ((ps + 1) + 1)), .int (nI 1), .int (nI (dgt T ln (ps + 1))), .int se, .int (nI pa), .ref x1, .ref x2])), (x1, .inl (G.2 0, 4, .inl (nA DG))), (x2, .inl (G.2 1, 60, .inl (nA T)))] := hD
                refine br_eq0 (tgt := 86) hx hb dX3_readOrder_71 (by decide) (by decide) (fun h38 => ?_) (fun h38 => ?_)
                · skip
                  have e0 := (oE_w1 h23 h27).trans (dE_f1 h31)
                  refine nr_const (v := 0) hx hb dX3_readOrder_86 rfl ?_
                  refine nr_top (y := nI (bb ((oE T ln ps).1 = true))) ((congrArg nI (bb_f (by rw [e0]; exact Bool.false_ne_true))).symm) ?_
                  exact wretz hx hb hr hlk hK hS ((1, (nI (dgt T ln (ps + 1))), se, pa, DG)) (by show va_P G.1 vwCl [(x0, .inr (3, [.int (nI ln), .int (nI ((oE T ln ps).2)), .int (nI 1), .int (nI (dgt T ln (ps + 1))), .int se, .int (nI pa), .ref x1, .ref x2])), (x1, .inl (G.2 0, 4, .inl (nA DG))), (x2, .inl (G.2 1, 60, .inl (nA T)))] _; rw [e0]; exact hP) (by show va_D _ [(x0, .inr (3, [.int (nI ln), .int (nI ((oE T ln ps).2)), .int (nI 1), .int (nI (dgt T ln (ps + 1))), .int se, .int (nI pa), .ref x1, .ref x2])), (x1, .inl (G.2 0, 4, .inl (nA DG))), (x2, .inl (G.2 1, 60, .inl (nA T)))]; rw [e0]; exact hD) rfl (⟨rfl, fun q => absurd q (by rw [e0]; exact Bool.false_ne_true)⟩) dX3_readOrder_87
                · exact absurd (by decide) h38
          · skip
            refine nr_top (congrArg nI (bb_f h27)) ?_
            rw [bb_f h27] at hP hD
            rw [rdI_n h27] at hP hD
            have hP : va_P G.1 vwCl [(x0, .inr (3, [.int (nI ln), .int (nI (ps + 1)), .int (nI 1), .int (-1), .int se, .int (nI pa), .ref x1, .ref x2])), (x1, .inl (G.2 0, 4, .inl (nA DG))), (x2, .inl (G.2 1, 60, .inl (nA T)))] _ := hP
            have hD : va_D AA [(x0, .inr (3, [.int (nI ln), .int (nI (ps + 1)), .int (nI 1), .int (-1), .int se, .int (nI pa), .ref x1, .ref x2])), (x1, .inl (G.2 0, 4, .inl (nA DG))), (x2, .inl (G.2 1, 60, .inl (nA T)))] := hD
            refine br_eq0 (tgt := 86) hx hb dX3_readOrder_62 (by decide) (by decide) (fun h39 => ?_) (fun h39 => ?_)
            · skip
              have e0 := oE_w0 h23 h27
              refine nr_const (v := 0) hx hb dX3_readOrder_86 rfl ?_
              refine nr_top (y := nI (bb ((oE T ln ps).1 = true))) ((congrArg nI (bb_f (by rw [e0]; exact Bool.false_ne_true))).symm) ?_
              exact wretz hx hb hr hlk hK hS ((1, (-1), se, pa, DG)) (by show va_P G.1 vwCl [(x0, .inr (3, [.int (nI ln), .int (nI ((oE T ln ps).2)), .int (nI 1), .int (-1), .int se, .int (nI pa), .ref x1, .ref x2])), (x1, .inl (G.2 0, 4, .inl (nA DG))), (x2, .inl (G.2 1, 60, .inl (nA T)))] _; rw [e0]; exact hP) (by show va_D _ [(x0, .inr (3, [.int (nI ln), .int (nI ((oE T ln ps).2)), .int (nI 1), .int (-1), .int se, .int (nI pa), .ref x1, .ref x2])), (x1, .inl (G.2 0, 4, .inl (nA DG))), (x2, .inl (G.2 1, 60, .inl (nA T)))]; rw [e0]; exact hD) rfl (⟨rfl, fun q => absurd q (by rw [e0]; exact Bool.false_ne_true)⟩) dX3_readOrder_87
            · exact absurd (by decide) h39
      · skip
        refine nr_top (congrArg nI (bb_f h23)) ?_
        rw [bb_f h23] at hP hD
        have hP : va_P G.1 vwCl [(x0, .inr (3, [.int (nI ln), .int (nI ps), .int (nI kd), .int fi, .int se, .int (nI pa), .ref x1, .ref x2])), (x1, .inl (G.2 0, 4, .inl (nA DG))), (x2, .inl (G.2 1, 60, .inl (nA T)))] _ := hP
        have hD : va_D AA [(x0, .inr (3, [.int (nI ln), .int (nI ps), .int (nI kd), .int fi, .int se, .int (nI pa), .ref x1, .ref x2])), (x1, .inl (G.2 0, 4, .inl (nA DG))), (x2, .inl (G.2 1, 60, .inl (nA T)))] := hD
        refine br_eq0 (tgt := 88) hx hb dX3_readOrder_50 (by decide) (by decide) (fun h40 => ?_) (fun h40 => ?_)
        · skip
          refine lv_aload_n hx hb dX3_readOrder_88 rfl (lv_at hl 0 rfl) ?_
          refine nr_bi (v := 103) hx hb dX3_readOrder_89 (by decide +kernel) ?_
          refine wcVi (q := (RX3, TX3, 8)) (As := [.int (nI 103)]) (ws := [(x0, .inr (3, [.int (nI ln), .int (nI ps), .int (nI kd), .int fi, .int se, .int (nI pa), .ref x1, .ref x2])), (x1, .inl (G.2 0, 4, .inl (nA DG))), (x2, .inl (G.2 1, 60, .inl (nA T)))]) (wc := [(x0, .inr (3, [.int (nI ln), .int (nI ps), .int (nI kd), .int fi, .int se, .int (nI pa), .ref x1, .ref x2])), (x1, .inl (G.2 0, 4, .inl (nA DG))), (x2, .inl (G.2 1, 60, .inl (nA T)))]) (wr := []) (wn := fun _ => [(x0, .inr (3, [.int (nI ln), .int (nI (ps + bb (isS T ln ps 103))), .int (nI kd), .int fi, .int se, .int (nI pa), .ref x1, .ref x2])), (x1, .inl (G.2 0, 4, .inl (nA DG))), (x2, .inl (G.2 1, 60, .inl (nA T)))]) ⟨hx, hb, hml, hown, hts⟩ (c_X3_readSign l G x0 x1 x2 ln ps kd fi se pa DG T 103 (by omega) hln hT (by omega) _) (cwV 1 hts gX3_readOrder_X3_readSign rfl rfl rfl (by decide +kernel) ⟨Nat.le_of_ble_eq_true rfl, Nat.le_of_ble_eq_true rfl⟩) hK hP hD hS hAA [0, 1, 2] [] [0, 1, 2] rfl rfl rfl rfl (by decide) rfl (fun _ => rfl) 3 0 rfl rfl rfl hl.1 rfl (Nat.le_of_ble_eq_true rfl) dX3_readOrder_91 ⟨by first | exact Nat.le_of_ble_eq_true rfl | omega, by first | exact Nat.le_of_ble_eq_true rfl | omega⟩ (fun rr42 uu H locs hw41 hP hD hS => ?_)
          have hP : va_P G.1 vwCl [(x0, .inr (3, [.int (nI ln), .int (nI (ps + bb (isS T ln ps 103))), .int (nI kd), .int fi, .int se, .int (nI pa), .ref x1, .ref x2])), (x1, .inl (G.2 0, 4, .inl (nA DG))), (x2, .inl (G.2 1, 60, .inl (nA T)))] _ := hP
          have hD : va_D AA [(x0, .inr (3, [.int (nI ln), .int (nI (ps + bb (isS T ln ps 103))), .int (nI kd), .int fi, .int se, .int (nI pa), .ref x1, .ref x2])), (x1, .inl (G.2 0, 4, .inl (nA DG))), (x2, .inl (G.2 1, 60, .inl (nA T)))] := hD
          obtain ⟨hrhw41, hw41⟩ := hw41
          subst hrhw41
          by_cases h43 : isS T ln ps 103
          · skip
            refine nr_top (congrArg nI (bb_t h43)) ?_
            rw [bb_t h43] at hP hD
            have hP : va_P G.1 vwCl [(x0, .inr (3, [.int (nI ln), .int (nI (ps + 1)), .int (nI kd), .int fi, .int se, .int (nI pa), .ref x1, .ref x2])), (x1, .inl (G.2 0, 4, .inl (nA DG))), (x2, .inl (G.2 1, 60, .inl (nA T)))] _ := hP
            have hD : va_D AA [(x0, .inr (3, [.int (nI ln), .int (nI (ps + 1)), .int (nI kd), .int fi, .int se, .int (nI pa), .ref x1, .ref x2])), (x1, .inl (G.2 0, 4, .inl (nA DG))), (x2, .inl (G.2 1, 60, .inl (nA T)))] := hD
            refine br_eq0 (tgt := 139) hx hb dX3_readOrder_94 (by decide) (by decide) (fun h44 => ?_) (fun h44 => ?_)
            · exact absurd h44 (by decide)
            · skip
              refine lv_aload_n hx hb dX3_readOrder_97 rfl (lv_at hl 0 rfl) ?_
              refine nr_const (v := 2) hx hb dX3_readOrder_98 rfl ?_
              refine va_put (D := G.1) (ci := 3) (v := .int (nI 2)) (ty := .int) (C := RX3) (T := TX3) (N := 8) hx hb hts hF3 tyX3 tyX3_ok nmX3 hown hK hP hD hS 0 rfl rfl 2 (by decide) (hts (.fieldLink RX3 34 "CousinShares$OrderText" "kind" "I") (List.mem_of_getElem? (i := 1) rfl)) (fun _ h9 => h9) rfl (by decide +kernel) rfl rfl (Nat.le_of_ble_eq_true rfl) dX3_readOrder_99 (fun H locs hP hD hS => ?_)
              have hP : va_P G.1 vwCl [(x0, .inr (3, [.int (nI ln), .int (nI (ps + 1)), .int (nI 2), .int fi, .int se, .int (nI pa), .ref x1, .ref x2])), (x1, .inl (G.2 0, 4, .inl (nA DG))), (x2, .inl (G.2 1, 60, .inl (nA T)))] _ := hP
              have hD : va_D AA [(x0, .inr (3, [.int (nI ln), .int (nI (ps + 1)), .int (nI 2), .int fi, .int se, .int (nI pa), .ref x1, .ref x2])), (x1, .inl (G.2 0, 4, .inl (nA DG))), (x2, .inl (G.2 1, 60, .inl (nA T)))] := hD
              refine lv_aload_n hx hb dX3_readOrder_102 rfl (lv_at hl 0 rfl) ?_
              refine wcVi (q := (RX3, TX3, 8)) (As := []) (ws := [(x0, .inr (3, [.int (nI ln), .int (nI (ps + 1)), .int (nI 2), .int fi, .int se, .int (nI pa), .ref x1, .ref x2])), (x1, .inl (G.2 0, 4, .inl (nA DG))), (x2, .inl (G.2 1, 60, .inl (nA T)))]) (wc := [(x0, .inr (3, [.int (nI ln), .int (nI (ps + 1)), .int (nI 2), .int fi, .int se, .int (nI pa), .ref x1, .ref x2])), (x1, .inl (G.2 0, 4, .inl (nA DG))), (x2, .inl (G.2 1, 60, .inl (nA T)))]) (wr := []) (wn := fun _ => [(x0, .inr (3, [.int (nI ln), .int (nI ((ps + 1) + bb (rdk T ln (ps + 1) 0 7))), .int (nI 2), .int (rdI T ln (ps + 1) 0 7), .int se, .int (nI pa), .ref x1, .ref x2])), (x1, .inl (G.2 0, 4, .inl (nA DG))), (x2, .inl (G.2 1, 60, .inl (nA T)))]) ⟨hx, hb, hml, hown, hts⟩ (c_X3_readCousin l G x0 x1 x2 ln (ps + 1) 2 fi se pa DG T (by omega) hln hT _) (cwV 0 hts gX3_readOrder_X3_readCousin rfl rfl rfl (by decide +kernel) ⟨Nat.le_of_ble_eq_true rfl, Nat.le_of_ble_eq_true rfl⟩) hK hP hD hS hAA [0, 1, 2] [] [0, 1, 2] rfl rfl rfl rfl (by decide) rfl (fun _ => rfl) 3 0 rfl rfl rfl hl.1 rfl (Nat.le_of_ble_eq_true rfl) dX3_readOrder_103 ⟨by first | exact Nat.le_of_ble_eq_true rfl | omega, by first | exact Nat.le_of_ble_eq_true rfl | omega⟩ (fun rr46 uu H locs hw45 hP hD hS => ?_)
              have hP : va_P G.1 vwCl [(x0, .inr (3, [.int (nI ln), .int (nI ((ps + 1) + bb (rdk T ln (ps + 1) 0 7))), .int (nI 2), .int (rdI T ln (ps + 1) 0 7), .int se, .int (nI pa), .ref x1, .ref x2])), (x1, .inl (G.2 0, 4, .inl (nA DG))), (x2, .inl (G.2 1, 60, .inl (nA T)))] _ := hP
              have hD : va_D AA [(x0, .inr (3, [.int (nI ln), .int (nI ((ps + 1) + bb (rdk T ln (ps + 1) 0 7))), .int (nI 2), .int (rdI T ln (ps + 1) 0 7), .int se, .int (nI pa), .ref x1, .ref x2])), (x1, .inl (G.2 0, 4, .inl (nA DG))), (x2, .inl (G.2 1, 60, .inl (nA T)))] := hD
              obtain ⟨hrhw45, hw45⟩ := hw45
              subst hrhw45
              by_cases h47 : rdk T ln (ps + 1) 0 7
              · skip
                refine nr_top (congrArg nI (bb_t h47)) ?_
                rw [bb_t h47] at hP hD
                rw [rdI_p h47] at hP hD
                have hP : va_P G.1 vwCl [(x0, .inr (3, [.int (nI ln), .int (nI ((ps + 1) + 1)), .int (nI 2), .int (nI (dgt T ln (ps + 1))), .int se, .int (nI pa), .ref x1, .ref x2])), (x1, .inl (G.2 0, 4, .inl (nA DG))), (x2, .inl (G.2 1, 60, .inl (nA T)))] _ := hP
                have hD : va_D AA [(x0, .inr (3, [.int (nI ln), .int (nI ((ps + 1) + 1)), .int (nI 2), .int (nI (dgt T ln (ps + 1))), .int se, .int (nI pa), .ref x1, .ref x2])), (x1, .inl (G.2 0, 4, .inl (nA DG))), (x2, .inl (G.2 1, 60, .inl (nA T)))] := hD
                refine br_eq0 (tgt := 137) hx hb dX3_readOrder_106 (by decide) (by decide) (fun h48 => ?_) (fun h48 => ?_)
                · exact absurd h48 (by decide)
                · skip
                  refine lv_aload_n hx hb dX3_readOrder_109 rfl (lv_at hl 0 rfl) ?_
                  refine wcVi (q := (RX3, TX3, 8)) (As := []) (ws := [(x0, .inr (3, [.int (nI ln), .int (nI ((ps + 1) + 1)), .int (nI 2), .int (nI (dgt T ln (ps + 1))), .int se, .int (nI pa), .ref x1, .ref x2])), (x1, .inl (G.2 0, 4, .inl (nA DG))), (x2, .inl (G.2 1, 60, .inl (nA T)))]) (wc := [(x0, .inr (3, [.int (nI ln), .int (nI ((ps + 1) + 1)), .int (nI 2), .int (nI (dgt T ln (ps + 1))), .int se, .int (nI pa), .ref x1, .ref x2])), (x1, .inl (G.2 0, 4, .inl (nA DG))), (x2, .inl (G.2 1, 60, .inl (nA T)))]) (wr := []) (wn := fun _ => [(x0, .inr (3, [.int (nI ln), .int (nI (((ps + 1) + 1) + bb (oth T ln ((ps + 1) + 1) (dgt T ln (ps + 1))))), .int (nI 2), .int (nI (dgt T ln (ps + 1))), .int (if oth T ln ((ps + 1) + 1) (dgt T ln (ps + 1)) then nI (dgt T ln ((ps + 1) + 1)) else -1), .int (nI pa), .ref x1, .ref x2])), (x1, .inl (G.2 0, 4, .inl (nA DG))), (x2, .inl (G.2 1, 60, .inl (nA T)))]) ⟨hx, hb, hml, hown, hts⟩ (c_X3_readOther l G x0 x1 x2 ln ((ps + 1) + 1) 2 fi se pa DG T (dgt T ln (ps + 1)) (by omega) hln hT (by omega) _) (cwV 0 hts gX3_readOrder_X3_readOther rfl rfl rfl (by decide +kernel) ⟨Nat.le_of_ble_eq_true rfl, Nat.le_of_ble_eq_true rfl⟩) hK hP hD hS hAA [0, 1, 2] [] [0, 1, 2] rfl rfl rfl rfl (by decide) rfl (fun _ => rfl) 3 0 rfl rfl rfl hl.1 rfl (Nat.le_of_ble_eq_true rfl) dX3_readOrder_110 ⟨by first | exact Nat.le_of_ble_eq_true rfl | omega, by first | exact Nat.le_of_ble_eq_true rfl | omega⟩ (fun rr50 uu H locs hw49 hP hD hS => ?_)
                  have hP : va_P G.1 vwCl [(x0, .inr (3, [.int (nI ln), .int (nI (((ps + 1) + 1) + bb (oth T ln ((ps + 1) + 1) (dgt T ln (ps + 1))))), .int (nI 2), .int (nI (dgt T ln (ps + 1))), .int (if oth T ln ((ps + 1) + 1) (dgt T ln (ps + 1)) then nI (dgt T ln ((ps + 1) + 1)) else -1), .int (nI pa), .ref x1, .ref x2])), (x1, .inl (G.2 0, 4, .inl (nA DG))), (x2, .inl (G.2 1, 60, .inl (nA T)))] _ := hP
                  have hD : va_D AA [(x0, .inr (3, [.int (nI ln), .int (nI (((ps + 1) + 1) + bb (oth T ln ((ps + 1) + 1) (dgt T ln (ps + 1))))), .int (nI 2), .int (nI (dgt T ln (ps + 1))), .int (if oth T ln ((ps + 1) + 1) (dgt T ln (ps + 1)) then nI (dgt T ln ((ps + 1) + 1)) else -1), .int (nI pa), .ref x1, .ref x2])), (x1, .inl (G.2 0, 4, .inl (nA DG))), (x2, .inl (G.2 1, 60, .inl (nA T)))] := hD
                  obtain ⟨hrhw49, hw49⟩ := hw49
                  subst hrhw49
                  by_cases h51 : oth T ln ((ps + 1) + 1) (dgt T ln (ps + 1))
                  · skip
                    refine nr_top (congrArg nI (bb_t h51)) ?_
                    rw [bb_t h51] at hP hD
                    have hP : va_P G.1 vwCl [(x0, .inr (3, [.int (nI ln), .int (nI (((ps + 1) + 1) + 1)), .int (nI 2), .int (nI (dgt T ln (ps + 1))), .int (if oth T ln ((ps + 1) + 1) (dgt T ln (ps + 1)) then nI (dgt T ln ((ps + 1) + 1)) else -1), .int (nI pa), .ref x1, .ref x2])), (x1, .inl (G.2 0, 4, .inl (nA DG))), (x2, .inl (G.2 1, 60, .inl (nA T)))] _ := hP
                    have hD : va_D AA [(x0, .inr (3, [.int (nI ln), .int (nI (((ps + 1) + 1) + 1)), .int (nI 2), .int (nI (dgt T ln (ps + 1))), .int (if oth T ln ((ps + 1) + 1) (dgt T ln (ps + 1)) then nI (dgt T ln ((ps + 1) + 1)) else -1), .int (nI pa), .ref x1, .ref x2])), (x1, .inl (G.2 0, 4, .inl (nA DG))), (x2, .inl (G.2 1, 60, .inl (nA T)))] := hD
                    refine br_eq0 (tgt := 137) hx hb dX3_readOrder_113 (by decide) (by decide) (fun h52 => ?_) (fun h52 => ?_)
                    · exact absurd h52 (by decide)
                    · skip
                      refine lv_aload_n hx hb dX3_readOrder_116 rfl (lv_at hl 0 rfl) ?_
                      refine nr_bi (v := 61) hx hb dX3_readOrder_117 (by decide +kernel) ?_
                      refine wcVi (q := (RX3, TX3, 8)) (As := [.int (nI 61)]) (ws := [(x0, .inr (3, [.int (nI ln), .int (nI (((ps + 1) + 1) + 1)), .int (nI 2), .int (nI (dgt T ln (ps + 1))), .int (if oth T ln ((ps + 1) + 1) (dgt T ln (ps + 1)) then nI (dgt T ln ((ps + 1) + 1)) else -1), .int (nI pa), .ref x1, .ref x2])), (x1, .inl (G.2 0, 4, .inl (nA DG))), (x2, .inl (G.2 1, 60, .inl (nA T)))]) (wc := [(x0, .inr (3, [.int (nI ln), .int (nI (((ps + 1) + 1) + 1)), .int (nI 2), .int (nI (dgt T ln (ps + 1))), .int (if oth T ln ((ps + 1) + 1) (dgt T ln (ps + 1)) then nI (dgt T ln ((ps + 1) + 1)) else -1), .int (nI pa), .ref x1, .ref x2])), (x1, .inl (G.2 0, 4, .inl (nA DG))), (x2, .inl (G.2 1, 60, .inl (nA T)))]) (wr := []) (wn := fun _ => [(x0, .inr (3, [.int (nI ln), .int (nI ((((ps + 1) + 1) + 1) + bb (isS T ln (((ps + 1) + 1) + 1) 61))), .int (nI 2), .int (nI (dgt T ln (ps + 1))), .int (if oth T ln ((ps + 1) + 1) (dgt T ln (ps + 1)) then nI (dgt T ln ((ps + 1) + 1)) else -1), .int (nI pa), .ref x1, .ref x2])), (x1, .inl (G.2 0, 4, .inl (nA DG))), (x2, .inl (G.2 1, 60, .inl (nA T)))]) ⟨hx, hb, hml, hown, hts⟩ (c_X3_readSign l G x0 x1 x2 ln (((ps + 1) + 1) + 1) 2 (nI (dgt T ln (ps + 1))) (if oth T ln ((ps + 1) + 1) (dgt T ln (ps + 1)) then nI (dgt T ln ((ps + 1) + 1)) else -1) pa DG T 61 (by omega) hln hT (by omega) _) (cwV 1 hts gX3_readOrder_X3_readSign rfl rfl rfl (by decide +kernel) ⟨Nat.le_of_ble_eq_true rfl, Nat.le_of_ble_eq_true rfl⟩) hK hP hD hS hAA [0, 1, 2] [] [0, 1, 2] rfl rfl rfl rfl (by decide) rfl (fun _ => rfl) 3 0 rfl rfl rfl hl.1 rfl (Nat.le_of_ble_eq_true rfl) dX3_readOrder_119 ⟨by first | exact Nat.le_of_ble_eq_true rfl | omega, by first | exact Nat.le_of_ble_eq_true rfl | omega⟩ (fun rr54 uu H locs hw53 hP hD hS => ?_)
                      have hP : va_P G.1 vwCl [(x0, .inr (3, [.int (nI ln), .int (nI ((((ps + 1) + 1) + 1) + bb (isS T ln (((ps + 1) + 1) + 1) 61))), .int (nI 2), .int (nI (dgt T ln (ps + 1))), .int (if oth T ln ((ps + 1) + 1) (dgt T ln (ps + 1)) then nI (dgt T ln ((ps + 1) + 1)) else -1), .int (nI pa), .ref x1, .ref x2])), (x1, .inl (G.2 0, 4, .inl (nA DG))), (x2, .inl (G.2 1, 60, .inl (nA T)))] _ := hP
                      have hD : va_D AA [(x0, .inr (3, [.int (nI ln), .int (nI ((((ps + 1) + 1) + 1) + bb (isS T ln (((ps + 1) + 1) + 1) 61))), .int (nI 2), .int (nI (dgt T ln (ps + 1))), .int (if oth T ln ((ps + 1) + 1) (dgt T ln (ps + 1)) then nI (dgt T ln ((ps + 1) + 1)) else -1), .int (nI pa), .ref x1, .ref x2])), (x1, .inl (G.2 0, 4, .inl (nA DG))), (x2, .inl (G.2 1, 60, .inl (nA T)))] := hD
                      obtain ⟨hrhw53, hw53⟩ := hw53
                      subst hrhw53
                      by_cases h55 : isS T ln (((ps + 1) + 1) + 1) 61
                      · skip
                        refine nr_top (congrArg nI (bb_t h55)) ?_
                        rw [bb_t h55] at hP hD
                        have hP : va_P G.1 vwCl [(x0, .inr (3, [.int (nI ln), .int (nI ((((ps + 1) + 1) + 1) + 1)), .int (nI 2), .int (nI (dgt T ln (ps + 1))), .int (if oth T ln ((ps + 1) + 1) (dgt T ln (ps + 1)) then nI (dgt T ln ((ps + 1) + 1)) else -1), .int (nI pa), .ref x1, .ref x2])), (x1, .inl (G.2 0, 4, .inl (nA DG))), (x2, .inl (G.2 1, 60, .inl (nA T)))] _ := hP
                        have hD : va_D AA [(x0, .inr (3, [.int (nI ln), .int (nI ((((ps + 1) + 1) + 1) + 1)), .int (nI 2), .int (nI (dgt T ln (ps + 1))), .int (if oth T ln ((ps + 1) + 1) (dgt T ln (ps + 1)) then nI (dgt T ln ((ps + 1) + 1)) else -1), .int (nI pa), .ref x1, .ref x2])), (x1, .inl (G.2 0, 4, .inl (nA DG))), (x2, .inl (G.2 1, 60, .inl (nA T)))] := hD
                        refine br_eq0 (tgt := 137) hx hb dX3_readOrder_122 (by decide) (by decide) (fun h56 => ?_) (fun h56 => ?_)
                        · exact absurd h56 (by decide)
                        · skip
                          refine lv_aload_n hx hb dX3_readOrder_125 rfl (lv_at hl 0 rfl) ?_
                          refine nr_const (v := 1) hx hb dX3_readOrder_126 rfl ?_
                          refine wcVi (q := (RX3, TX3, 8)) (As := [.int (nI 1)]) (ws := [(x0, .inr (3, [.int (nI ln), .int (nI ((((ps + 1) + 1) + 1) + 1)), .int (nI 2), .int (nI (dgt T ln (ps + 1))), .int (if oth T ln ((ps + 1) + 1) (dgt T ln (ps + 1)) then nI (dgt T ln ((ps + 1) + 1)) else -1), .int (nI pa), .ref x1, .ref x2])), (x1, .inl (G.2 0, 4, .inl (nA DG))), (x2, .inl (G.2 1, 60, .inl (nA T)))]) (wc := [(x0, .inr (3, [.int (nI ln), .int (nI ((((ps + 1) + 1) + 1) + 1)), .int (nI 2), .int (nI (dgt T ln (ps + 1))), .int (if oth T ln ((ps + 1) + 1) (dgt T ln (ps + 1)) then nI (dgt T ln ((ps + 1) + 1)) else -1), .int (nI pa), .ref x1, .ref x2])), (x1, .inl (G.2 0, 4, .inl (nA DG))), (x2, .inl (G.2 1, 60, .inl (nA T)))]) (wr := []) (wn := fun _ => [(x0, .inr (3, [.int (nI ln), .int (nI (((((ps + 1) + 1) + 1) + 1) + dc T ln 1 ((((ps + 1) + 1) + 1) + 1))), .int (nI 2), .int (nI (dgt T ln (ps + 1))), .int (if oth T ln ((ps + 1) + 1) (dgt T ln (ps + 1)) then nI (dgt T ln ((ps + 1) + 1)) else -1), .int (nI pa), .ref x1, .ref x2])), (x1, .inl (G.2 0, 4, .inl (nA (cpA DG (dgF T ln ((((ps + 1) + 1) + 1) + 1)) 0 (dc T ln 1 ((((ps + 1) + 1) + 1) + 1)))))), (x2, .inl (G.2 1, 60, .inl (nA T)))]) ⟨hx, hb, hml, hown, hts⟩ (c_X3_readDigits l G x0 x1 x2 ln ((((ps + 1) + 1) + 1) + 1) 2 (nI (dgt T ln (ps + 1))) (if oth T ln ((ps + 1) + 1) (dgt T ln (ps + 1)) then nI (dgt T ln ((ps + 1) + 1)) else -1) pa DG T 1 (by omega) hln hT (by omega) _) (cwV 1 hts gX3_readOrder_X3_readDigits rfl rfl rfl (by decide +kernel) ⟨Nat.le_of_ble_eq_true rfl, Nat.le_of_ble_eq_true rfl⟩) hK hP hD hS hAA [0, 1, 2] [] [0, 1, 2] rfl rfl rfl rfl (by decide) rfl (fun _ => rfl) 3 0 rfl rfl rfl hl.1 rfl (Nat.le_of_ble_eq_true rfl) dX3_readOrder_127 ⟨by first | exact Nat.le_of_ble_eq_true rfl | omega, by first | exact Nat.le_of_ble_eq_true rfl | omega⟩ (fun rr58 uu H locs hw57 hP hD hS => ?_)
                          have hP : va_P G.1 vwCl [(x0, .inr (3, [.int (nI ln), .int (nI (((((ps + 1) + 1) + 1) + 1) + dc T ln 1 ((((ps + 1) + 1) + 1) + 1))), .int (nI 2), .int (nI (dgt T ln (ps + 1))), .int (if oth T ln ((ps + 1) + 1) (dgt T ln (ps + 1)) then nI (dgt T ln ((ps + 1) + 1)) else -1), .int (nI pa), .ref x1, .ref x2])), (x1, .inl (G.2 0, 4, .inl (nA (cpA DG (dgF T ln ((((ps + 1) + 1) + 1) + 1)) 0 (dc T ln 1 ((((ps + 1) + 1) + 1) + 1)))))), (x2, .inl (G.2 1, 60, .inl (nA T)))] _ := hP
                          have hD : va_D AA [(x0, .inr (3, [.int (nI ln), .int (nI (((((ps + 1) + 1) + 1) + 1) + dc T ln 1 ((((ps + 1) + 1) + 1) + 1))), .int (nI 2), .int (nI (dgt T ln (ps + 1))), .int (if oth T ln ((ps + 1) + 1) (dgt T ln (ps + 1)) then nI (dgt T ln ((ps + 1) + 1)) else -1), .int (nI pa), .ref x1, .ref x2])), (x1, .inl (G.2 0, 4, .inl (nA (cpA DG (dgF T ln ((((ps + 1) + 1) + 1) + 1)) 0 (dc T ln 1 ((((ps + 1) + 1) + 1) + 1)))))), (x2, .inl (G.2 1, 60, .inl (nA T)))] := hD
                          obtain ⟨hrhw57, hw57⟩ := hw57
                          subst hrhw57
                          by_cases h59 : dc T ln 1 ((((ps + 1) + 1) + 1) + 1) = 1
                          · skip
                            refine nr_top (congrArg nI (bb_t h59)) ?_
                            refine br_eq0 (tgt := 137) hx hb dX3_readOrder_130 (by decide) (by decide) (fun h60 => ?_) (fun h60 => ?_)
                            · exact absurd h60 (by decide)
                            · skip
                              have h61 : isS T ln (ps + 3) 61 := h55
                              have hdc : dc T ln 1 (ps + 3 + 1) = 1 := h59
                              have e0 := (oE_g2 h43 h47 h51).trans (dE_t2 h61 hdc)
                              have hat : (oE T ln ps).2 = ((((ps + 1) + 1) + 1) + 1) + dc T ln 1 ((((ps + 1) + 1) + 1) + 1) := (by rw [e0]; show ps + 3 + 1 + 1 = _; omega)
                              refine nr_const (v := 1) hx hb dX3_readOrder_133 rfl ?_
                              refine nr_top (y := nI (bb ((oE T ln ps).1 = true))) ((congrArg nI (bb_t (by rw [e0]))).symm) ?_
                              refine lv_goto (tgt := 138) hx hb dX3_readOrder_134 (by decide) ?_
                              exact wretz hx hb hr hlk hK hS ((2, (nI (dgt T ln (ps + 1))), (if oth T ln ((ps + 1) + 1) (dgt T ln (ps + 1)) then nI (dgt T ln ((ps + 1) + 1)) else -1), pa, cpA DG (dgF T ln ((((ps + 1) + 1) + 1) + 1)) 0 (dc T ln 1 ((((ps + 1) + 1) + 1) + 1)))) (by show va_P G.1 vwCl [(x0, .inr (3, [.int (nI ln), .int (nI ((oE T ln ps).2)), .int (nI 2), .int (nI (dgt T ln (ps + 1))), .int (if oth T ln ((ps + 1) + 1) (dgt T ln (ps + 1)) then nI (dgt T ln ((ps + 1) + 1)) else -1), .int (nI pa), .ref x1, .ref x2])), (x1, .inl (G.2 0, 4, .inl (nA (cpA DG (dgF T ln ((((ps + 1) + 1) + 1) + 1)) 0 (dc T ln 1 ((((ps + 1) + 1) + 1) + 1)))))), (x2, .inl (G.2 1, 60, .inl (nA T)))] _; rw [hat]; exact hP) (by show va_D _ [(x0, .inr (3, [.int (nI ln), .int (nI ((oE T ln ps).2)), .int (nI 2), .int (nI (dgt T ln (ps + 1))), .int (if oth T ln ((ps + 1) + 1) (dgt T ln (ps + 1)) then nI (dgt T ln ((ps + 1) + 1)) else -1), .int (nI pa), .ref x1, .ref x2])), (x1, .inl (G.2 0, 4, .inl (nA (cpA DG (dgF T ln ((((ps + 1) + 1) + 1) + 1)) 0 (dc T ln 1 ((((ps + 1) + 1) + 1) + 1)))))), (x2, .inl (G.2 1, 60, .inl (nA T)))]; rw [hat]; exact hD) rfl (⟨rfl, fun _ => Or.inr (Or.inr (Or.inl ⟨h43, rfl, rfl, if_pos h51, dgX (j := ps + 3) (m := 1) e0 hdc 0 (by decide)⟩))⟩) dX3_readOrder_138
                          · skip
                            refine nr_top (congrArg nI (bb_f h59)) ?_
                            refine br_eq0 (tgt := 137) hx hb dX3_readOrder_130 (by decide) (by decide) (fun h61 => ?_) (fun h61 => ?_)
                            · skip
                              have h61 : isS T ln (ps + 3) 61 := h55
                              have e0 := (oE_g2 h43 h47 h51).trans (dE_f2 h61 h59)
                              refine nr_const (v := 0) hx hb dX3_readOrder_137 rfl ?_
                              refine nr_top (y := nI (bb ((oE T ln ps).1 = true))) ((congrArg nI (bb_f (by rw [e0]; exact Bool.false_ne_true))).symm) ?_
                              exact wretz hx hb hr hlk hK hS ((2, (nI (dgt T ln (ps + 1))), (if oth T ln ((ps + 1) + 1) (dgt T ln (ps + 1)) then nI (dgt T ln ((ps + 1) + 1)) else -1), pa, cpA DG (dgF T ln ((((ps + 1) + 1) + 1) + 1)) 0 (dc T ln 1 ((((ps + 1) + 1) + 1) + 1)))) (by show va_P G.1 vwCl [(x0, .inr (3, [.int (nI ln), .int (nI ((oE T ln ps).2)), .int (nI 2), .int (nI (dgt T ln (ps + 1))), .int (if oth T ln ((ps + 1) + 1) (dgt T ln (ps + 1)) then nI (dgt T ln ((ps + 1) + 1)) else -1), .int (nI pa), .ref x1, .ref x2])), (x1, .inl (G.2 0, 4, .inl (nA (cpA DG (dgF T ln ((((ps + 1) + 1) + 1) + 1)) 0 (dc T ln 1 ((((ps + 1) + 1) + 1) + 1)))))), (x2, .inl (G.2 1, 60, .inl (nA T)))] _; rw [e0]; exact hP) (by show va_D _ [(x0, .inr (3, [.int (nI ln), .int (nI ((oE T ln ps).2)), .int (nI 2), .int (nI (dgt T ln (ps + 1))), .int (if oth T ln ((ps + 1) + 1) (dgt T ln (ps + 1)) then nI (dgt T ln ((ps + 1) + 1)) else -1), .int (nI pa), .ref x1, .ref x2])), (x1, .inl (G.2 0, 4, .inl (nA (cpA DG (dgF T ln ((((ps + 1) + 1) + 1) + 1)) 0 (dc T ln 1 ((((ps + 1) + 1) + 1) + 1)))))), (x2, .inl (G.2 1, 60, .inl (nA T)))]; rw [e0]; exact hD) rfl (⟨rfl, fun q => absurd q (by rw [e0]; exact Bool.false_ne_true)⟩) dX3_readOrder_138
                            · exact absurd (by decide) h61
                      · skip
                        refine nr_top (congrArg nI (bb_f h55)) ?_
                        rw [bb_f h55] at hP hD
                        have hP : va_P G.1 vwCl [(x0, .inr (3, [.int (nI ln), .int (nI (((ps + 1) + 1) + 1)), .int (nI 2), .int (nI (dgt T ln (ps + 1))), .int (if oth T ln ((ps + 1) + 1) (dgt T ln (ps + 1)) then nI (dgt T ln ((ps + 1) + 1)) else -1), .int (nI pa), .ref x1, .ref x2])), (x1, .inl (G.2 0, 4, .inl (nA DG))), (x2, .inl (G.2 1, 60, .inl (nA T)))] _ := hP
                        have hD : va_D AA [(x0, .inr (3, [.int (nI ln), .int (nI (((ps + 1) + 1) + 1)), .int (nI 2), .int (nI (dgt T ln (ps + 1))), .int (if oth T ln ((ps + 1) + 1) (dgt T ln (ps + 1)) then nI (dgt T ln ((ps + 1) + 1)) else -1), .int (nI pa), .ref x1, .ref x2])), (x1, .inl (G.2 0, 4, .inl (nA DG))), (x2, .inl (G.2 1, 60, .inl (nA T)))] := hD
                        refine br_eq0 (tgt := 137) hx hb dX3_readOrder_122 (by decide) (by decide) (fun h62 => ?_) (fun h62 => ?_)
                        · skip
                          have e0 := (oE_g2 h43 h47 h51).trans (dE_f1 h55)
                          refine nr_const (v := 0) hx hb dX3_readOrder_137 rfl ?_
                          refine nr_top (y := nI (bb ((oE T ln ps).1 = true))) ((congrArg nI (bb_f (by rw [e0]; exact Bool.false_ne_true))).symm) ?_
                          exact wretz hx hb hr hlk hK hS ((2, (nI (dgt T ln (ps + 1))), (if oth T ln ((ps + 1) + 1) (dgt T ln (ps + 1)) then nI (dgt T ln ((ps + 1) + 1)) else -1), pa, DG)) (by show va_P G.1 vwCl [(x0, .inr (3, [.int (nI ln), .int (nI ((oE T ln ps).2)), .int (nI 2), .int (nI (dgt T ln (ps + 1))), .int (if oth T ln ((ps + 1) + 1) (dgt T ln (ps + 1)) then nI (dgt T ln ((ps + 1) + 1)) else -1), .int (nI pa), .ref x1, .ref x2])), (x1, .inl (G.2 0, 4, .inl (nA DG))), (x2, .inl (G.2 1, 60, .inl (nA T)))] _; rw [e0]; exact hP) (by show va_D _ [(x0, .inr (3, [.int (nI ln), .int (nI ((oE T ln ps).2)), .int (nI 2), .int (nI (dgt T ln (ps + 1))), .int (if oth T ln ((ps + 1) + 1) (dgt T ln (ps + 1)) then nI (dgt T ln ((ps + 1) + 1)) else -1), .int (nI pa), .ref x1, .ref x2])), (x1, .inl (G.2 0, 4, .inl (nA DG))), (x2, .inl (G.2 1, 60, .inl (nA T)))]; rw [e0]; exact hD) rfl (⟨rfl, fun q => absurd q (by rw [e0]; exact Bool.false_ne_true)⟩) dX3_readOrder_138
                        · exact absurd (by decide) h62
                  · skip
                    refine nr_top (congrArg nI (bb_f h51)) ?_
                    rw [bb_f h51] at hP hD
                    have hP : va_P G.1 vwCl [(x0, .inr (3, [.int (nI ln), .int (nI ((ps + 1) + 1)), .int (nI 2), .int (nI (dgt T ln (ps + 1))), .int (if oth T ln ((ps + 1) + 1) (dgt T ln (ps + 1)) then nI (dgt T ln ((ps + 1) + 1)) else -1), .int (nI pa), .ref x1, .ref x2])), (x1, .inl (G.2 0, 4, .inl (nA DG))), (x2, .inl (G.2 1, 60, .inl (nA T)))] _ := hP
                    have hD : va_D AA [(x0, .inr (3, [.int (nI ln), .int (nI ((ps + 1) + 1)), .int (nI 2), .int (nI (dgt T ln (ps + 1))), .int (if oth T ln ((ps + 1) + 1) (dgt T ln (ps + 1)) then nI (dgt T ln ((ps + 1) + 1)) else -1), .int (nI pa), .ref x1, .ref x2])), (x1, .inl (G.2 0, 4, .inl (nA DG))), (x2, .inl (G.2 1, 60, .inl (nA T)))] := hD
                    refine br_eq0 (tgt := 137) hx hb dX3_readOrder_113 (by decide) (by decide) (fun h63 => ?_) (fun h63 => ?_)
                    · skip
                      have e0 := oE_g1 h43 h47 h51
                      refine nr_const (v := 0) hx hb dX3_readOrder_137 rfl ?_
                      refine nr_top (y := nI (bb ((oE T ln ps).1 = true))) ((congrArg nI (bb_f (by rw [e0]; exact Bool.false_ne_true))).symm) ?_
                      exact wretz hx hb hr hlk hK hS ((2, nI (dgt T ln (ps + 1)), if oth T ln ((ps + 1) + 1) (dgt T ln (ps + 1)) then nI (dgt T ln ((ps + 1) + 1)) else -1, pa, DG)) (by show va_P G.1 vwCl [(x0, .inr (3, [.int (nI ln), .int (nI ((oE T ln ps).2)), .int (nI 2), .int (nI (dgt T ln (ps + 1))), .int (if oth T ln ((ps + 1) + 1) (dgt T ln (ps + 1)) then nI (dgt T ln ((ps + 1) + 1)) else -1), .int (nI pa), .ref x1, .ref x2])), (x1, .inl (G.2 0, 4, .inl (nA DG))), (x2, .inl (G.2 1, 60, .inl (nA T)))] _; rw [e0]; exact hP) (by show va_D _ [(x0, .inr (3, [.int (nI ln), .int (nI ((oE T ln ps).2)), .int (nI 2), .int (nI (dgt T ln (ps + 1))), .int (if oth T ln ((ps + 1) + 1) (dgt T ln (ps + 1)) then nI (dgt T ln ((ps + 1) + 1)) else -1), .int (nI pa), .ref x1, .ref x2])), (x1, .inl (G.2 0, 4, .inl (nA DG))), (x2, .inl (G.2 1, 60, .inl (nA T)))]; rw [e0]; exact hD) rfl (⟨rfl, fun q => absurd q (by rw [e0]; exact Bool.false_ne_true)⟩) dX3_readOrder_138
                    · exact absurd (by decide) h63
              · skip
                refine nr_top (congrArg nI (bb_f h47)) ?_
                rw [bb_f h47] at hP hD
                rw [rdI_n h47] at hP hD
                have hP : va_P G.1 vwCl [(x0, .inr (3, [.int (nI ln), .int (nI (ps + 1)), .int (nI 2), .int (-1), .int se, .int (nI pa), .ref x1, .ref x2])), (x1, .inl (G.2 0, 4, .inl (nA DG))), (x2, .inl (G.2 1, 60, .inl (nA T)))] _ := hP
                have hD : va_D AA [(x0, .inr (3, [.int (nI ln), .int (nI (ps + 1)), .int (nI 2), .int (-1), .int se, .int (nI pa), .ref x1, .ref x2])), (x1, .inl (G.2 0, 4, .inl (nA DG))), (x2, .inl (G.2 1, 60, .inl (nA T)))] := hD
                refine br_eq0 (tgt := 137) hx hb dX3_readOrder_106 (by decide) (by decide) (fun h64 => ?_) (fun h64 => ?_)
                · skip
                  have e0 := oE_g0 h43 h47
                  refine nr_const (v := 0) hx hb dX3_readOrder_137 rfl ?_
                  refine nr_top (y := nI (bb ((oE T ln ps).1 = true))) ((congrArg nI (bb_f (by rw [e0]; exact Bool.false_ne_true))).symm) ?_
                  exact wretz hx hb hr hlk hK hS ((2, (-1), se, pa, DG)) (by show va_P G.1 vwCl [(x0, .inr (3, [.int (nI ln), .int (nI ((oE T ln ps).2)), .int (nI 2), .int (-1), .int se, .int (nI pa), .ref x1, .ref x2])), (x1, .inl (G.2 0, 4, .inl (nA DG))), (x2, .inl (G.2 1, 60, .inl (nA T)))] _; rw [e0]; exact hP) (by show va_D _ [(x0, .inr (3, [.int (nI ln), .int (nI ((oE T ln ps).2)), .int (nI 2), .int (-1), .int se, .int (nI pa), .ref x1, .ref x2])), (x1, .inl (G.2 0, 4, .inl (nA DG))), (x2, .inl (G.2 1, 60, .inl (nA T)))]; rw [e0]; exact hD) rfl (⟨rfl, fun q => absurd q (by rw [e0]; exact Bool.false_ne_true)⟩) dX3_readOrder_138
                · exact absurd (by decide) h64
          · skip
            refine nr_top (congrArg nI (bb_f h43)) ?_
            rw [bb_f h43] at hP hD
            have hP : va_P G.1 vwCl [(x0, .inr (3, [.int (nI ln), .int (nI ps), .int (nI kd), .int fi, .int se, .int (nI pa), .ref x1, .ref x2])), (x1, .inl (G.2 0, 4, .inl (nA DG))), (x2, .inl (G.2 1, 60, .inl (nA T)))] _ := hP
            have hD : va_D AA [(x0, .inr (3, [.int (nI ln), .int (nI ps), .int (nI kd), .int fi, .int se, .int (nI pa), .ref x1, .ref x2])), (x1, .inl (G.2 0, 4, .inl (nA DG))), (x2, .inl (G.2 1, 60, .inl (nA T)))] := hD
            refine br_eq0 (tgt := 139) hx hb dX3_readOrder_94 (by decide) (by decide) (fun h65 => ?_) (fun h65 => ?_)
            · skip
              refine lv_aload_n hx hb dX3_readOrder_139 rfl (lv_at hl 0 rfl) ?_
              refine nr_bi (v := 100) hx hb dX3_readOrder_140 (by decide +kernel) ?_
              refine wcVi (q := (RX3, TX3, 8)) (As := [.int (nI 100)]) (ws := [(x0, .inr (3, [.int (nI ln), .int (nI ps), .int (nI kd), .int fi, .int se, .int (nI pa), .ref x1, .ref x2])), (x1, .inl (G.2 0, 4, .inl (nA DG))), (x2, .inl (G.2 1, 60, .inl (nA T)))]) (wc := [(x0, .inr (3, [.int (nI ln), .int (nI ps), .int (nI kd), .int fi, .int se, .int (nI pa), .ref x1, .ref x2])), (x1, .inl (G.2 0, 4, .inl (nA DG))), (x2, .inl (G.2 1, 60, .inl (nA T)))]) (wr := []) (wn := fun _ => [(x0, .inr (3, [.int (nI ln), .int (nI (ps + bb (isS T ln ps 100))), .int (nI kd), .int fi, .int se, .int (nI pa), .ref x1, .ref x2])), (x1, .inl (G.2 0, 4, .inl (nA DG))), (x2, .inl (G.2 1, 60, .inl (nA T)))]) ⟨hx, hb, hml, hown, hts⟩ (c_X3_readSign l G x0 x1 x2 ln ps kd fi se pa DG T 100 (by omega) hln hT (by omega) _) (cwV 1 hts gX3_readOrder_X3_readSign rfl rfl rfl (by decide +kernel) ⟨Nat.le_of_ble_eq_true rfl, Nat.le_of_ble_eq_true rfl⟩) hK hP hD hS hAA [0, 1, 2] [] [0, 1, 2] rfl rfl rfl rfl (by decide) rfl (fun _ => rfl) 3 0 rfl rfl rfl hl.1 rfl (Nat.le_of_ble_eq_true rfl) dX3_readOrder_142 ⟨by first | exact Nat.le_of_ble_eq_true rfl | omega, by first | exact Nat.le_of_ble_eq_true rfl | omega⟩ (fun rr67 uu H locs hw66 hP hD hS => ?_)
              have hP : va_P G.1 vwCl [(x0, .inr (3, [.int (nI ln), .int (nI (ps + bb (isS T ln ps 100))), .int (nI kd), .int fi, .int se, .int (nI pa), .ref x1, .ref x2])), (x1, .inl (G.2 0, 4, .inl (nA DG))), (x2, .inl (G.2 1, 60, .inl (nA T)))] _ := hP
              have hD : va_D AA [(x0, .inr (3, [.int (nI ln), .int (nI (ps + bb (isS T ln ps 100))), .int (nI kd), .int fi, .int se, .int (nI pa), .ref x1, .ref x2])), (x1, .inl (G.2 0, 4, .inl (nA DG))), (x2, .inl (G.2 1, 60, .inl (nA T)))] := hD
              obtain ⟨hrhw66, hw66⟩ := hw66
              subst hrhw66
              by_cases h68 : isS T ln ps 100
              · skip
                refine nr_top (congrArg nI (bb_t h68)) ?_
                rw [bb_t h68] at hP hD
                have hP : va_P G.1 vwCl [(x0, .inr (3, [.int (nI ln), .int (nI (ps + 1)), .int (nI kd), .int fi, .int se, .int (nI pa), .ref x1, .ref x2])), (x1, .inl (G.2 0, 4, .inl (nA DG))), (x2, .inl (G.2 1, 60, .inl (nA T)))] _ := hP
                have hD : va_D AA [(x0, .inr (3, [.int (nI ln), .int (nI (ps + 1)), .int (nI kd), .int fi, .int se, .int (nI pa), .ref x1, .ref x2])), (x1, .inl (G.2 0, 4, .inl (nA DG))), (x2, .inl (G.2 1, 60, .inl (nA T)))] := hD
                refine br_eq0 (tgt := 158) hx hb dX3_readOrder_145 (by decide) (by decide) (fun h69 => ?_) (fun h69 => ?_)
                · exact absurd h69 (by decide)
                · skip
                  refine lv_aload_n hx hb dX3_readOrder_148 rfl (lv_at hl 0 rfl) ?_
                  refine nr_const (v := 3) hx hb dX3_readOrder_149 rfl ?_
                  refine va_put (D := G.1) (ci := 3) (v := .int (nI 3)) (ty := .int) (C := RX3) (T := TX3) (N := 8) hx hb hts hF3 tyX3 tyX3_ok nmX3 hown hK hP hD hS 0 rfl rfl 2 (by decide) (hts (.fieldLink RX3 34 "CousinShares$OrderText" "kind" "I") (List.mem_of_getElem? (i := 1) rfl)) (fun _ h9 => h9) rfl (by decide +kernel) rfl rfl (Nat.le_of_ble_eq_true rfl) dX3_readOrder_150 (fun H locs hP hD hS => ?_)
                  have hP : va_P G.1 vwCl [(x0, .inr (3, [.int (nI ln), .int (nI (ps + 1)), .int (nI 3), .int fi, .int se, .int (nI pa), .ref x1, .ref x2])), (x1, .inl (G.2 0, 4, .inl (nA DG))), (x2, .inl (G.2 1, 60, .inl (nA T)))] _ := hP
                  have hD : va_D AA [(x0, .inr (3, [.int (nI ln), .int (nI (ps + 1)), .int (nI 3), .int fi, .int se, .int (nI pa), .ref x1, .ref x2])), (x1, .inl (G.2 0, 4, .inl (nA DG))), (x2, .inl (G.2 1, 60, .inl (nA T)))] := hD
                  refine lv_aload_n hx hb dX3_readOrder_153 rfl (lv_at hl 0 rfl) ?_
                  refine wcVi (q := (RX3, TX3, 8)) (As := []) (ws := [(x0, .inr (3, [.int (nI ln), .int (nI (ps + 1)), .int (nI 3), .int fi, .int se, .int (nI pa), .ref x1, .ref x2])), (x1, .inl (G.2 0, 4, .inl (nA DG))), (x2, .inl (G.2 1, 60, .inl (nA T)))]) (wc := [(x0, .inr (3, [.int (nI ln), .int (nI (ps + 1)), .int (nI 3), .int fi, .int se, .int (nI pa), .ref x1, .ref x2])), (x1, .inl (G.2 0, 4, .inl (nA DG))), (x2, .inl (G.2 1, 60, .inl (nA T)))]) (wr := []) (wn := fun _ => [(x0, .inr (3, [.int (nI ln), .int (nI ((ps + 1) + cc T ln 7 (ps + 1) 0)), .int (nI 3), .int fi, .int se, .int (nI (pq T ln (ps + 1) (cc T ln 7 (ps + 1) 0))), .ref x1, .ref x2])), (x1, .inl (G.2 0, 4, .inl (nA DG))), (x2, .inl (G.2 1, 60, .inl (nA T)))]) ⟨hx, hb, hml, hown, hts⟩ (c_X3_readParty l G x0 x1 x2 ln (ps + 1) 3 fi se pa DG T (by omega) hln hT _) (cwV 0 hts gX3_readOrder_X3_readParty rfl rfl rfl (by decide +kernel) ⟨Nat.le_of_ble_eq_true rfl, Nat.le_of_ble_eq_true rfl⟩) hK hP hD hS hAA [0, 1, 2] [] [0, 1, 2] rfl rfl rfl rfl (by decide) rfl (fun _ => rfl) 3 0 rfl rfl rfl hl.1 rfl (Nat.le_of_ble_eq_true rfl) dX3_readOrder_154 ⟨by first | exact Nat.le_of_ble_eq_true rfl | omega, by first | exact Nat.le_of_ble_eq_true rfl | omega⟩ (fun rr71 uu H locs hw70 hP hD hS => ?_)
                  have hP : va_P G.1 vwCl [(x0, .inr (3, [.int (nI ln), .int (nI ((ps + 1) + cc T ln 7 (ps + 1) 0)), .int (nI 3), .int fi, .int se, .int (nI (pq T ln (ps + 1) (cc T ln 7 (ps + 1) 0))), .ref x1, .ref x2])), (x1, .inl (G.2 0, 4, .inl (nA DG))), (x2, .inl (G.2 1, 60, .inl (nA T)))] _ := hP
                  have hD : va_D AA [(x0, .inr (3, [.int (nI ln), .int (nI ((ps + 1) + cc T ln 7 (ps + 1) 0)), .int (nI 3), .int fi, .int se, .int (nI (pq T ln (ps + 1) (cc T ln 7 (ps + 1) 0))), .ref x1, .ref x2])), (x1, .inl (G.2 0, 4, .inl (nA DG))), (x2, .inl (G.2 1, 60, .inl (nA T)))] := hD
                  obtain ⟨hrhw70, hw70⟩ := hw70
                  subst hrhw70
                  by_cases h72 : ¬ cc T ln 7 (ps + 1) 0 = 0
                  · skip
                    refine nr_top (congrArg nI (bb_t h72)) ?_
                    have e0 := oE_d1 h68 h72
                    refine nr_top (y := nI (bb ((oE T ln ps).1 = true))) ((congrArg nI (bb_t (by rw [e0]))).symm) ?_
                    exact wretz hx hb hr hlk hK hS ((3, fi, se, pq T ln (ps + 1) (cc T ln 7 (ps + 1) 0), DG)) (by show va_P G.1 vwCl [(x0, .inr (3, [.int (nI ln), .int (nI ((oE T ln ps).2)), .int (nI 3), .int fi, .int se, .int (nI (pq T ln (ps + 1) (cc T ln 7 (ps + 1) 0))), .ref x1, .ref x2])), (x1, .inl (G.2 0, 4, .inl (nA DG))), (x2, .inl (G.2 1, 60, .inl (nA T)))] _; rw [e0]; exact hP) (by show va_D _ [(x0, .inr (3, [.int (nI ln), .int (nI ((oE T ln ps).2)), .int (nI 3), .int fi, .int se, .int (nI (pq T ln (ps + 1) (cc T ln 7 (ps + 1) 0))), .ref x1, .ref x2])), (x1, .inl (G.2 0, 4, .inl (nA DG))), (x2, .inl (G.2 1, 60, .inl (nA T)))]; rw [e0]; exact hD) rfl (⟨rfl, fun _ => Or.inr (Or.inr (Or.inr ⟨h68, rfl, by rw [e0]; show _ = pq T ln (ps + 1) (ps + 1 + cc T ln 7 (ps + 1) 0 - (ps + 1)); rw [Nat.add_sub_cancel_left]⟩))⟩) dX3_readOrder_157
                  · skip
                    refine nr_top (congrArg nI (bb_f h72)) ?_
                    have hzz := Decidable.of_not_not h72
                    have e0 := oE_d0 h68 hzz
                    have hat : (oE T ln ps).2 = (ps + 1) + cc T ln 7 (ps + 1) 0 := (by rw [e0]; show ps + 1 = _; omega)
                    refine nr_top (y := nI (bb ((oE T ln ps).1 = true))) ((congrArg nI (bb_f (by rw [e0]; exact Bool.false_ne_true))).symm) ?_
                    exact wretz hx hb hr hlk hK hS ((3, fi, se, pq T ln (ps + 1) (cc T ln 7 (ps + 1) 0), DG)) (by show va_P G.1 vwCl [(x0, .inr (3, [.int (nI ln), .int (nI ((oE T ln ps).2)), .int (nI 3), .int fi, .int se, .int (nI (pq T ln (ps + 1) (cc T ln 7 (ps + 1) 0))), .ref x1, .ref x2])), (x1, .inl (G.2 0, 4, .inl (nA DG))), (x2, .inl (G.2 1, 60, .inl (nA T)))] _; rw [hat]; exact hP) (by show va_D _ [(x0, .inr (3, [.int (nI ln), .int (nI ((oE T ln ps).2)), .int (nI 3), .int fi, .int se, .int (nI (pq T ln (ps + 1) (cc T ln 7 (ps + 1) 0))), .ref x1, .ref x2])), (x1, .inl (G.2 0, 4, .inl (nA DG))), (x2, .inl (G.2 1, 60, .inl (nA T)))]; rw [hat]; exact hD) rfl (⟨rfl, fun q => absurd q (by rw [e0]; exact Bool.false_ne_true)⟩) dX3_readOrder_157
              · skip
                refine nr_top (congrArg nI (bb_f h68)) ?_
                rw [bb_f h68] at hP hD
                have hP : va_P G.1 vwCl [(x0, .inr (3, [.int (nI ln), .int (nI ps), .int (nI kd), .int fi, .int se, .int (nI pa), .ref x1, .ref x2])), (x1, .inl (G.2 0, 4, .inl (nA DG))), (x2, .inl (G.2 1, 60, .inl (nA T)))] _ := hP
                have hD : va_D AA [(x0, .inr (3, [.int (nI ln), .int (nI ps), .int (nI kd), .int fi, .int se, .int (nI pa), .ref x1, .ref x2])), (x1, .inl (G.2 0, 4, .inl (nA DG))), (x2, .inl (G.2 1, 60, .inl (nA T)))] := hD
                refine br_eq0 (tgt := 158) hx hb dX3_readOrder_145 (by decide) (by decide) (fun h73 => ?_) (fun h73 => ?_)
                · skip
                  have e0 := oE_n h3 h23 h43 h68
                  refine nr_const (v := 0) hx hb dX3_readOrder_158 rfl ?_
                  refine nr_top (y := nI (bb ((oE T ln ps).1 = true))) ((congrArg nI (bb_f (by rw [e0]; exact Bool.false_ne_true))).symm) ?_
                  exact wretz hx hb hr hlk hK hS ((kd, fi, se, pa, DG)) (by show va_P G.1 vwCl [(x0, .inr (3, [.int (nI ln), .int (nI ((oE T ln ps).2)), .int (nI kd), .int fi, .int se, .int (nI pa), .ref x1, .ref x2])), (x1, .inl (G.2 0, 4, .inl (nA DG))), (x2, .inl (G.2 1, 60, .inl (nA T)))] _; rw [e0]; exact hP) (by show va_D _ [(x0, .inr (3, [.int (nI ln), .int (nI ((oE T ln ps).2)), .int (nI kd), .int fi, .int se, .int (nI pa), .ref x1, .ref x2])), (x1, .inl (G.2 0, 4, .inl (nA DG))), (x2, .inl (G.2 1, 60, .inl (nA T)))]; rw [e0]; exact hD) rfl (⟨rfl, fun q => absurd q (by rw [e0]; exact Bool.false_ne_true)⟩) dX3_readOrder_159
                · exact absurd (by decide) h73
            · exact absurd (by decide) h65
        · exact absurd (by decide) h40
    · exact absurd (by decide) h20)

set_option maxHeartbeats 4000000 in
set_option maxRecDepth 100000 in
theorem c_X3_countOrders (l : Launch) (G : gG) (x0 : Nat) (x1 : Nat) (x2 : Nat) (ln : Nat) (ps : Nat) (kd : Nat) (fi : Int32) (se : Int32) (pa : Nat) (DG : Nat → Nat) (T : Nat → Nat) (hln : ln ≤ 60) (hT : ∀ j, j < 60 → T j < 65536) (sz : Nat) : Met l yX3_countOrders wsX3_countOrders ({ frames := 3, cells := 0, slots := 0, locals := 81 } : Room) (WR G [(x0, .inr (3, [.int (nI ln), .int (nI ps), .int (nI kd), .int fi, .int se, .int (nI pa), .ref x1, .ref x2])), (x1, .inl (G.2 0, 4, .inl (nA DG))), (x2, .inl (G.2 1, 60, .inl (nA T)))] sz [.ref x0]) (va_Qi (fun (r : Int32) (u : Nat × Int32 × Int32 × Nat × (Nat → Nat)) => match u with | ⟨kd1, fi1, se1, pa1, dg1⟩ => r = nI (fN (fT T ln)) ∧ (True)) (WB G (va_A [(x0, .inr (3, [.int (nI ln), .int (nI ps), .int (nI kd), .int fi, .int se, .int (nI pa), .ref x1, .ref x2])), (x1, .inl (G.2 0, 4, .inl (nA DG))), (x2, .inl (G.2 1, 60, .inl (nA T)))] sz) (fun u : Nat × Int32 × Int32 × Nat × (Nat → Nat) => match u with | ⟨kd1, fi1, se1, pa1, dg1⟩ => [(x0, .inr (3, [.int (nI ln), .int (nI (fP (fT T ln) ln)), .int (nI kd1), .int fi1, .int se1, .int (nI pa1), .ref x1, .ref x2])), (x1, .inl (G.2 0, 4, .inl (nA dg1))), (x2, .inl (G.2 1, 60, .inl (nA T)))])) (va_A [(x0, .inr (3, [.int (nI ln), .int (nI ps), .int (nI kd), .int fi, .int se, .int (nI pa), .ref x1, .ref x2])), (x1, .inl (G.2 0, 4, .inl (nA DG))), (x2, .inl (G.2 1, 60, .inl (nA T)))] sz)) 0 0 (va_A [(x0, .inr (3, [.int (nI ln), .int (nI ps), .int (nI kd), .int fi, .int se, .int (nI pa), .ref x1, .ref x2])), (x1, .inl (G.2 0, 4, .inl (nA DG))), (x2, .inl (G.2 1, 60, .inl (nA T)))] sz) := wrM (Qf := fun AA => va_Qi (fun (r : Int32) (u : Nat × Int32 × Int32 × Nat × (Nat → Nat)) => match u with | ⟨kd1, fi1, se1, pa1, dg1⟩ => r = nI (fN (fT T ln)) ∧ (True)) (WB G AA (fun u : Nat × Int32 × Int32 × Nat × (Nat → Nat) => match u with | ⟨kd1, fi1, se1, pa1, dg1⟩ => [(x0, .inr (3, [.int (nI ln), .int (nI (fP (fT T ln) ln)), .int (nI kd1), .int fi1, .int se1, .int (nI pa1), .ref x1, .ref x2])), (x1, .inl (G.2 0, 4, .inl (nA dg1))), (x2, .inl (G.2 1, 60, .inl (nA T)))])) AA) (C := RX3) rfl (by decide) rfl (Nat.le_of_ble_eq_true rfl) (fun pX eX sX mX bX meX cX ls AA hx hb hr hts hown hlk hml hin hP hK hD hAA hS hl => by
  have hl : lv_has ls 2 [(0, .ref x0)] := hl
  have hF3 : ∀ w ∈ wsX30, w ∈ wsX3_countOrders := fun _ h => (List.mem_cons_of_mem _ (List.mem_append_right _ h))
  refine lv_aload_n hx hb dX3_countOrders_0 rfl (lv_at hl 0 rfl) ?_
  refine nr_const (v := 0) hx hb dX3_countOrders_1 rfl ?_
  refine va_put (D := G.1) (ci := 3) (v := .int (nI 0)) (ty := .int) (C := RX3) (T := TX3) (N := 8) hx hb hts hF3 tyX3 tyX3_ok nmX3 hown hK hP hD hS 0 rfl rfl 1 (by decide) (hts (.fieldLink RX3 23 "CousinShares$OrderText" "at" "I") (List.mem_of_getElem? (i := 1) rfl)) (fun _ h9 => h9) rfl (by decide +kernel) rfl rfl (Nat.le_of_ble_eq_true rfl) dX3_countOrders_2 (fun H locs hP hD hS => ?_)
  have hP : va_P G.1 vwCl [(x0, .inr (3, [.int (nI ln), .int (nI 0), .int (nI kd), .int fi, .int se, .int (nI pa), .ref x1, .ref x2])), (x1, .inl (G.2 0, 4, .inl (nA DG))), (x2, .inl (G.2 1, 60, .inl (nA T)))] _ := hP
  have hD : va_D AA [(x0, .inr (3, [.int (nI ln), .int (nI 0), .int (nI kd), .int fi, .int se, .int (nI pa), .ref x1, .ref x2])), (x1, .inl (G.2 0, 4, .inl (nA DG))), (x2, .inl (G.2 1, 60, .inl (nA T)))] := hD
  refine nr_const (v := 1) hx hb dX3_countOrders_5 rfl ?_
  refine lv_istore_n (lv' := [(1, .int (nI 1)), (0, .ref x0)]) hx hb dX3_countOrders_6 rfl hl (by decide) rfl (fun ls hl => ?_)
  refine loop_w (T := Nat × Nat × Nat × Int32 × Int32 × Nat × (Nat → Nat)) (nL := 2) (fun x => 3 * x.1 ≤ x.2.1 ∧ x.2.1 ≤ 60 ∧ fT T ln = ft T ln (60 - x.1) x.2.1 x.1) (fun x => 60 - x.1) (fun x => [(0, .ref x0), (1, .int (nI (x.1 + 1)))]) (fun x => [(x0, .inr (3, [.int (nI ln), .int (nI x.2.1), .int (nI x.2.2.1), .int x.2.2.2.1, .int x.2.2.2.2.1, .int (nI x.2.2.2.2.2.1), .ref x1, .ref x2])), (x1, .inl (G.2 0, 4, .inl (nA x.2.2.2.2.2.2))), (x2, .inl (G.2 1, 60, .inl (nA T)))]) ?_ (0, 0, kd, fi, se, pa, DG) (lv_sub hl [1, 0] rfl) hP hD hS ⟨Nat.le_refl _, Nat.zero_le _, rfl⟩
  intro x ls H locs hl hP hD hS hi2 ih1
  obtain ⟨hi_0, hi_1, hi_2⟩ := hi2
  have hi_0 : 3 * x.1 ≤ x.2.1 := hi_0
  have hi_1 : x.2.1 ≤ 60 := hi_1
  have hi_2 : fT T ln = ft T ln (60 - x.1) x.2.1 x.1 := hi_2
  have hl : lv_has ls 2 [(0, .ref x0), (1, .int (nI (x.1 + 1)))] := hl
  have hP : va_P G.1 vwCl [(x0, .inr (3, [.int (nI ln), .int (nI x.2.1), .int (nI x.2.2.1), .int x.2.2.2.1, .int x.2.2.2.2.1, .int (nI x.2.2.2.2.2.1), .ref x1, .ref x2])), (x1, .inl (G.2 0, 4, .inl (nA x.2.2.2.2.2.2))), (x2, .inl (G.2 1, 60, .inl (nA T)))] _ := hP
  have hD : va_D AA [(x0, .inr (3, [.int (nI ln), .int (nI x.2.1), .int (nI x.2.2.1), .int x.2.2.2.1, .int x.2.2.2.2.1, .int (nI x.2.2.2.2.2.1), .ref x1, .ref x2])), (x1, .inl (G.2 0, 4, .inl (nA x.2.2.2.2.2.2))), (x2, .inl (G.2 1, 60, .inl (nA T)))] := hD
  have hol := oE_le T ln x.2.1
  refine lv_iload_n hx hb dX3_countOrders_7 rfl (lv_at hl 1 rfl) ?_
  refine nr_bi (v := 60) hx hb dX3_countOrders_8 (by decide +kernel) ?_
  refine br_igt (tgt := 52) hx hb dX3_countOrders_10 (by decide) (by omega) (by decide) (fun h3 => ?_) (fun h3 => ?_)
  · exact absurd h3 (by omega)
  · skip
    refine lv_aload_n hx hb dX3_countOrders_13 rfl (lv_at hl 0 rfl) ?_
    refine wcVi (q := (RX3, TX3, 8)) (As := []) (ws := [(x0, .inr (3, [.int (nI ln), .int (nI x.2.1), .int (nI x.2.2.1), .int x.2.2.2.1, .int x.2.2.2.2.1, .int (nI x.2.2.2.2.2.1), .ref x1, .ref x2])), (x1, .inl (G.2 0, 4, .inl (nA x.2.2.2.2.2.2))), (x2, .inl (G.2 1, 60, .inl (nA T)))]) (wc := [(x0, .inr (3, [.int (nI ln), .int (nI x.2.1), .int (nI x.2.2.1), .int x.2.2.2.1, .int x.2.2.2.2.1, .int (nI x.2.2.2.2.2.1), .ref x1, .ref x2])), (x1, .inl (G.2 0, 4, .inl (nA x.2.2.2.2.2.2))), (x2, .inl (G.2 1, 60, .inl (nA T)))]) (wr := []) (wn := fun u => match u with | ⟨u0, u1, u2, u3, u4⟩ => [(x0, .inr (3, [.int (nI ln), .int (nI ((oE T ln x.2.1).2)), .int (nI u0), .int u1, .int u2, .int (nI u3), .ref x1, .ref x2])), (x1, .inl (G.2 0, 4, .inl (nA u4))), (x2, .inl (G.2 1, 60, .inl (nA T)))]) ⟨hx, hb, hml, hown, hts⟩ (c_X3_readOrder l G x0 x1 x2 ln x.2.1 x.2.2.1 x.2.2.2.1 x.2.2.2.2.1 x.2.2.2.2.2.1 x.2.2.2.2.2.2 T (by omega) hln hT _) (cwV 0 hts gX3_countOrders_X3_readOrder rfl rfl rfl (by decide +kernel) ⟨Nat.le_of_ble_eq_true rfl, Nat.le_of_ble_eq_true rfl⟩) hK hP hD hS hAA [0, 1, 2] [] [0, 1, 2] rfl rfl rfl rfl (by decide) rfl (fun _ => rfl) 3 0 rfl rfl rfl hl.1 rfl (Nat.le_of_ble_eq_true rfl) dX3_countOrders_14 ⟨by first | exact Nat.le_of_ble_eq_true rfl | omega, by first | exact Nat.le_of_ble_eq_true rfl | omega⟩ (fun rr10 uu H locs hw9 hP hD hS => ?_)
    obtain ⟨kd1_4, fi1_5, se1_6, pa1_7, dg1_8⟩ := uu
    have hP : va_P G.1 vwCl [(x0, .inr (3, [.int (nI ln), .int (nI ((oE T ln x.2.1).2)), .int (nI kd1_4), .int fi1_5, .int se1_6, .int (nI pa1_7), .ref x1, .ref x2])), (x1, .inl (G.2 0, 4, .inl (nA dg1_8))), (x2, .inl (G.2 1, 60, .inl (nA T)))] _ := hP
    have hD : va_D AA [(x0, .inr (3, [.int (nI ln), .int (nI ((oE T ln x.2.1).2)), .int (nI kd1_4), .int fi1_5, .int se1_6, .int (nI pa1_7), .ref x1, .ref x2])), (x1, .inl (G.2 0, 4, .inl (nA dg1_8))), (x2, .inl (G.2 1, 60, .inl (nA T)))] := hD
    obtain ⟨hrhw9, hw9⟩ := hw9
    subst hrhw9
    by_cases h11 : (oE T ln x.2.1).1 = true
    · skip
      refine nr_top (congrArg nI (bb_t h11)) ?_
      refine br_ne0 (tgt := 22) hx hb dX3_countOrders_17 (by decide) (by decide) (fun h12 => ?_) (fun h12 => ?_)
      · skip
        have hog := oE_ge (T := T) (L := ln) (i := x.2.1) (by assumption)
        refine lv_aload_n hx hb dX3_countOrders_22 rfl (lv_at hl 0 rfl) ?_
        refine va_get (D := G.1) (ci := 3) (v := .int (nI ((oE T ln x.2.1).2))) (C := RX3) (T := TX3) (N := 8) hx hb hts hF3 hown hK hP 0 rfl rfl 1 (by decide) (hts (.fieldLink RX3 23 "CousinShares$OrderText" "at" "I") (List.mem_of_getElem? (i := 1) rfl)) (fun _ h9 => h9) rfl dX3_countOrders_23 ?_
        refine lv_aload_n hx hb dX3_countOrders_26 rfl (lv_at hl 0 rfl) ?_
        refine va_get (D := G.1) (ci := 3) (v := .int (nI ln)) (C := RX3) (T := TX3) (N := 8) hx hb hts hF3 hown hK hP 0 rfl rfl 0 (by decide) (hts (.fieldLink RX3 19 "CousinShares$OrderText" "length" "I") (List.mem_of_getElem? (i := 2) rfl)) (fun _ h9 => h9) rfl dX3_countOrders_27 ?_
        refine br_ine (tgt := 35) hx hb dX3_countOrders_30 (by decide) (by omega) (by omega) (fun h13 => ?_) (fun h13 => ?_)
        · skip
          refine lv_aload_n hx hb dX3_countOrders_35 rfl (lv_at hl 0 rfl) ?_
          refine nr_bi (v := 59) hx hb dX3_countOrders_36 (by decide +kernel) ?_
          refine wcVi (q := (RX3, TX3, 8)) (As := [.int (nI 59)]) (ws := [(x0, .inr (3, [.int (nI ln), .int (nI ((oE T ln x.2.1).2)), .int (nI kd1_4), .int fi1_5, .int se1_6, .int (nI pa1_7), .ref x1, .ref x2])), (x1, .inl (G.2 0, 4, .inl (nA dg1_8))), (x2, .inl (G.2 1, 60, .inl (nA T)))]) (wc := [(x0, .inr (3, [.int (nI ln), .int (nI ((oE T ln x.2.1).2)), .int (nI kd1_4), .int fi1_5, .int se1_6, .int (nI pa1_7), .ref x1, .ref x2])), (x1, .inl (G.2 0, 4, .inl (nA dg1_8))), (x2, .inl (G.2 1, 60, .inl (nA T)))]) (wr := []) (wn := fun _ => [(x0, .inr (3, [.int (nI ln), .int (nI (((oE T ln x.2.1).2) + bb (isS T ln ((oE T ln x.2.1).2) 59))), .int (nI kd1_4), .int fi1_5, .int se1_6, .int (nI pa1_7), .ref x1, .ref x2])), (x1, .inl (G.2 0, 4, .inl (nA dg1_8))), (x2, .inl (G.2 1, 60, .inl (nA T)))]) ⟨hx, hb, hml, hown, hts⟩ (c_X3_readSign l G x0 x1 x2 ln ((oE T ln x.2.1).2) kd1_4 fi1_5 se1_6 pa1_7 dg1_8 T 59 (by omega) hln hT (by omega) _) (cwV 1 hts gX3_countOrders_X3_readSign rfl rfl rfl (by decide +kernel) ⟨Nat.le_of_ble_eq_true rfl, Nat.le_of_ble_eq_true rfl⟩) hK hP hD hS hAA [0, 1, 2] [] [0, 1, 2] rfl rfl rfl rfl (by decide) rfl (fun _ => rfl) 3 0 rfl rfl rfl hl.1 rfl (Nat.le_of_ble_eq_true rfl) dX3_countOrders_38 ⟨by first | exact Nat.le_of_ble_eq_true rfl | omega, by first | exact Nat.le_of_ble_eq_true rfl | omega⟩ (fun rr15 uu H locs hw14 hP hD hS => ?_)
          have hP : va_P G.1 vwCl [(x0, .inr (3, [.int (nI ln), .int (nI (((oE T ln x.2.1).2) + bb (isS T ln ((oE T ln x.2.1).2) 59))), .int (nI kd1_4), .int fi1_5, .int se1_6, .int (nI pa1_7), .ref x1, .ref x2])), (x1, .inl (G.2 0, 4, .inl (nA dg1_8))), (x2, .inl (G.2 1, 60, .inl (nA T)))] _ := hP
          have hD : va_D AA [(x0, .inr (3, [.int (nI ln), .int (nI (((oE T ln x.2.1).2) + bb (isS T ln ((oE T ln x.2.1).2) 59))), .int (nI kd1_4), .int fi1_5, .int se1_6, .int (nI pa1_7), .ref x1, .ref x2])), (x1, .inl (G.2 0, 4, .inl (nA dg1_8))), (x2, .inl (G.2 1, 60, .inl (nA T)))] := hD
          obtain ⟨hrhw14, hw14⟩ := hw14
          subst hrhw14
          by_cases h16 : isS T ln ((oE T ln x.2.1).2) 59
          · skip
            refine nr_top (congrArg nI (bb_t h16)) ?_
            rw [bb_t h16] at hP hD
            have hP : va_P G.1 vwCl [(x0, .inr (3, [.int (nI ln), .int (nI (((oE T ln x.2.1).2) + 1)), .int (nI kd1_4), .int fi1_5, .int se1_6, .int (nI pa1_7), .ref x1, .ref x2])), (x1, .inl (G.2 0, 4, .inl (nA dg1_8))), (x2, .inl (G.2 1, 60, .inl (nA T)))] _ := hP
            have hD : va_D AA [(x0, .inr (3, [.int (nI ln), .int (nI (((oE T ln x.2.1).2) + 1)), .int (nI kd1_4), .int fi1_5, .int se1_6, .int (nI pa1_7), .ref x1, .ref x2])), (x1, .inl (G.2 0, 4, .inl (nA dg1_8))), (x2, .inl (G.2 1, 60, .inl (nA T)))] := hD
            refine br_ne0 (tgt := 46) hx hb dX3_countOrders_41 (by decide) (by decide) (fun h17 => ?_) (fun h17 => ?_)
            · skip
              have h59 : isS T ln (oE T ln x.2.1).2 59 := (by assumption)
              have h59l := h59.1
              refine nr_inc (d := 1) (v := (x.1 + 1) + 1) (lv' := [(1, .int (nI ((x.1 + 1) + 1))), (0, .ref x0)]) hx hb dX3_countOrders_46 hl (k := 1) rfl rfl (by decide) rfl (fun ls hl => ?_)
              refine lv_goto (tgt := 7) hx hb dX3_countOrders_49 (by decide) ?_
              exact ih1 (x.1 + 1, ((oE T ln x.2.1).2) + 1, kd1_4, fi1_5, se1_6, pa1_7, dg1_8) ls H locs (lv_sub hl [1, 0] rfl) hP hD hS ⟨by dsimp only; omega, by dsimp only; omega, by dsimp only; rw [hi_2, ft_s (by omega), if_pos (by assumption), if_neg (by assumption), if_pos (by assumption), show 60 - x.1 - 1 = 60 - (x.1 + 1) by omega]⟩ (by dsimp only; omega)
            · exact absurd h17 (by decide)
          · skip
            refine nr_top (congrArg nI (bb_f h16)) ?_
            rw [bb_f h16] at hP hD
            have hP : va_P G.1 vwCl [(x0, .inr (3, [.int (nI ln), .int (nI ((oE T ln x.2.1).2)), .int (nI kd1_4), .int fi1_5, .int se1_6, .int (nI pa1_7), .ref x1, .ref x2])), (x1, .inl (G.2 0, 4, .inl (nA dg1_8))), (x2, .inl (G.2 1, 60, .inl (nA T)))] _ := hP
            have hD : va_D AA [(x0, .inr (3, [.int (nI ln), .int (nI ((oE T ln x.2.1).2)), .int (nI kd1_4), .int fi1_5, .int se1_6, .int (nI pa1_7), .ref x1, .ref x2])), (x1, .inl (G.2 0, 4, .inl (nA dg1_8))), (x2, .inl (G.2 1, 60, .inl (nA T)))] := hD
            refine br_ne0 (tgt := 46) hx hb dX3_countOrders_41 (by decide) (by decide) (fun h18 => ?_) (fun h18 => ?_)
            · exact absurd (by decide) h18
            · skip
              have e0 : fT T ln = (false, (oE T ln x.2.1).2) := (by rw [hi_2, ft_s (by omega), if_pos (by assumption), if_neg (by assumption), if_neg (by assumption)])
              refine nr_const (v := 0) hx hb dX3_countOrders_44 rfl ?_
              refine nr_top (y := nI (fN (fT T ln))) ((congrArg nI (by rw [e0]; rfl))) ?_
              exact wret hx hb hr hlk hK hS ((kd1_4, fi1_5, se1_6, pa1_7, dg1_8)) (by show va_P G.1 vwCl [(x0, .inr (3, [.int (nI ln), .int (nI (fP (fT T ln) ln)), .int (nI kd1_4), .int fi1_5, .int se1_6, .int (nI pa1_7), .ref x1, .ref x2])), (x1, .inl (G.2 0, 4, .inl (nA dg1_8))), (x2, .inl (G.2 1, 60, .inl (nA T)))] _; rw [show fP (fT T ln) ln = ((oE T ln x.2.1).2) by rw [e0]; first | rfl | (show ln = _; omega)]; exact hP) (by show va_D _ [(x0, .inr (3, [.int (nI ln), .int (nI (fP (fT T ln) ln)), .int (nI kd1_4), .int fi1_5, .int se1_6, .int (nI pa1_7), .ref x1, .ref x2])), (x1, .inl (G.2 0, 4, .inl (nA dg1_8))), (x2, .inl (G.2 1, 60, .inl (nA T)))]; rw [show fP (fT T ln) ln = ((oE T ln x.2.1).2) by rw [e0]; first | rfl | (show ln = _; omega)]; exact hD) (⟨rfl, trivial⟩) dX3_countOrders_45
        · skip
          have e0 : fT T ln = (true, x.1 + 1) := (by rw [hi_2, ft_s (by omega), if_pos (by assumption), if_pos (by assumption)])
          refine lv_iload_n hx hb dX3_countOrders_33 rfl (lv_at hl 1 rfl) ?_
          refine nr_top (y := nI (fN (fT T ln))) ((congrArg nI (by rw [e0]; rfl))) ?_
          exact wret hx hb hr hlk hK hS ((kd1_4, fi1_5, se1_6, pa1_7, dg1_8)) (by show va_P G.1 vwCl [(x0, .inr (3, [.int (nI ln), .int (nI (fP (fT T ln) ln)), .int (nI kd1_4), .int fi1_5, .int se1_6, .int (nI pa1_7), .ref x1, .ref x2])), (x1, .inl (G.2 0, 4, .inl (nA dg1_8))), (x2, .inl (G.2 1, 60, .inl (nA T)))] _; rw [show fP (fT T ln) ln = (oE T ln x.2.1).2 by rw [e0]; first | rfl | (show ln = _; omega)]; exact hP) (by show va_D _ [(x0, .inr (3, [.int (nI ln), .int (nI (fP (fT T ln) ln)), .int (nI kd1_4), .int fi1_5, .int se1_6, .int (nI pa1_7), .ref x1, .ref x2])), (x1, .inl (G.2 0, 4, .inl (nA dg1_8))), (x2, .inl (G.2 1, 60, .inl (nA T)))]; rw [show fP (fT T ln) ln = (oE T ln x.2.1).2 by rw [e0]; first | rfl | (show ln = _; omega)]; exact hD) (⟨rfl, trivial⟩) dX3_countOrders_34
      · exact absurd h12 (by decide)
    · skip
      refine nr_top (congrArg nI (bb_f h11)) ?_
      refine br_ne0 (tgt := 22) hx hb dX3_countOrders_17 (by decide) (by decide) (fun h19 => ?_) (fun h19 => ?_)
      · exact absurd (by decide) h19
      · skip
        have e0 : fT T ln = (false, (oE T ln x.2.1).2) := (by rw [hi_2, ft_s (by omega), if_neg (by assumption)])
        refine nr_const (v := 0) hx hb dX3_countOrders_20 rfl ?_
        refine nr_top (y := nI (fN (fT T ln))) ((congrArg nI (by rw [e0]; rfl))) ?_
        exact wret hx hb hr hlk hK hS ((kd1_4, fi1_5, se1_6, pa1_7, dg1_8)) (by show va_P G.1 vwCl [(x0, .inr (3, [.int (nI ln), .int (nI (fP (fT T ln) ln)), .int (nI kd1_4), .int fi1_5, .int se1_6, .int (nI pa1_7), .ref x1, .ref x2])), (x1, .inl (G.2 0, 4, .inl (nA dg1_8))), (x2, .inl (G.2 1, 60, .inl (nA T)))] _; rw [show fP (fT T ln) ln = (oE T ln x.2.1).2 by rw [e0]; first | rfl | (show ln = _; omega)]; exact hP) (by show va_D _ [(x0, .inr (3, [.int (nI ln), .int (nI (fP (fT T ln) ln)), .int (nI kd1_4), .int fi1_5, .int se1_6, .int (nI pa1_7), .ref x1, .ref x2])), (x1, .inl (G.2 0, 4, .inl (nA dg1_8))), (x2, .inl (G.2 1, 60, .inl (nA T)))]; rw [show fP (fT T ln) ln = (oE T ln x.2.1).2 by rw [e0]; first | rfl | (show ln = _; omega)]; exact hD) (⟨rfl, trivial⟩) dX3_countOrders_21)
