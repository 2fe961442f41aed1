
set_option maxHeartbeats 4000000 in
set_option maxRecDepth 100000 in
theorem c_X3_readSign (l : Launch) (G : gG) (x0 : Nat) (x1 : Nat) (x2 : Nat) (ln : Nat) (ps : Nat) (kd : Nat) (fi : Int32) (se : Int32) (pa : Nat) (DG : Nat → Nat) (T : Nat → Nat) (ch : Nat) (hps : ps ≤ 1000) (hln : ln ≤ 60) (hT : ∀ j, j < 60 → T j < 65536) (hch : ch < 65536) (sz : Nat) : Met l yX3_readSign wsX3_readSign ({ frames := 0, cells := 0, slots := 0, locals := 0 } : Room) (WR G [(x0, .inr (3, [.int (nI ln), .int (nI ps), .int (nI kd), .int fi, .int se, .int (nI pa), .ref x1, .ref x2])), (x1, .inl (G.2 0, 4, .inl (nA DG))), (x2, .inl (G.2 1, 60, .inl (nA T)))] sz [.ref x0, .int (nI ch)]) (va_Qi (fun (r : Int32) (_ : Unit) => r = nI (bb (isS T ln ps ch)) ∧ (True)) (WB G (va_A [(x0, .inr (3, [.int (nI ln), .int (nI ps), .int (nI kd), .int fi, .int se, .int (nI pa), .ref x1, .ref x2])), (x1, .inl (G.2 0, 4, .inl (nA DG))), (x2, .inl (G.2 1, 60, .inl (nA T)))] sz) (fun _ : Unit => [(x0, .inr (3, [.int (nI ln), .int (nI (ps + bb (isS T ln ps ch))), .int (nI kd), .int fi, .int se, .int (nI pa), .ref x1, .ref x2])), (x1, .inl (G.2 0, 4, .inl (nA DG))), (x2, .inl (G.2 1, 60, .inl (nA T)))])) (va_A [(x0, .inr (3, [.int (nI ln), .int (nI ps), .int (nI kd), .int fi, .int se, .int (nI pa), .ref x1, .ref x2])), (x1, .inl (G.2 0, 4, .inl (nA DG))), (x2, .inl (G.2 1, 60, .inl (nA T)))] sz)) 0 0 (va_A [(x0, .inr (3, [.int (nI ln), .int (nI ps), .int (nI kd), .int fi, .int se, .int (nI pa), .ref x1, .ref x2])), (x1, .inl (G.2 0, 4, .inl (nA DG))), (x2, .inl (G.2 1, 60, .inl (nA T)))] sz) := wrM (Qf := fun AA => va_Qi (fun (r : Int32) (_ : Unit) => r = nI (bb (isS T ln ps ch)) ∧ (True)) (WB G AA (fun _ : Unit => [(x0, .inr (3, [.int (nI ln), .int (nI (ps + bb (isS T ln ps ch))), .int (nI kd), .int fi, .int se, .int (nI pa), .ref x1, .ref x2])), (x1, .inl (G.2 0, 4, .inl (nA DG))), (x2, .inl (G.2 1, 60, .inl (nA T)))])) AA) (C := RX3) rfl (by decide) rfl (Nat.le_of_ble_eq_true rfl) (fun pX eX sX mX bX meX cX ls AA hx hb hr hts hown hlk hml hin hP hK hD hAA hS hl => by
  have hl : lv_has ls 2 [(0, .ref x0), (1, .int (nI ch))] := hl
  have hF3 : ∀ w ∈ wsX30, w ∈ wsX3_readSign := fun _ h => (List.mem_cons_of_mem _ (List.mem_append_right _ h))
  refine lv_aload_n hx hb dX3_readSign_0 rfl (lv_at hl 0 rfl) ?_
  refine va_get (D := G.1) (ci := 3) (v := .int (nI ps)) (C := RX3) (T := TX3) (N := 8) hx hb hts hF3 hown hK hP 0 rfl rfl 1 (by decide) (hts (.fieldLink RX3 23 "CousinShares$OrderText" "at" "I") (List.mem_of_getElem? (i := 1) rfl)) (fun _ h9 => h9) rfl dX3_readSign_1 ?_
  refine lv_aload_n hx hb dX3_readSign_4 rfl (lv_at hl 0 rfl) ?_
  refine va_get (D := G.1) (ci := 3) (v := .int (nI ln)) (C := RX3) (T := TX3) (N := 8) hx hb hts hF3 hown hK hP 0 rfl rfl 0 (by decide) (hts (.fieldLink RX3 19 "CousinShares$OrderText" "length" "I") (List.mem_of_getElem? (i := 2) rfl)) (fun _ h9 => h9) rfl dX3_readSign_5 ?_
  refine br_ige (tgt := 36) hx hb dX3_readSign_8 (by decide) (by omega) (by omega) (fun h1 => ?_) (fun h1 => ?_)
  · skip
    have hS1 : ¬ (isS T ln ps ch) := (by first | exact fun q => absurd q.1 (by omega) | exact fun q => absurd q.2 (by assumption))
    have e : ps + bb (isS T ln ps ch) = ps + 0 := by rw [bb_f hS1]
    refine nr_const (v := 0) hx hb dX3_readSign_36 rfl ?_
    refine nr_top (y := nI (bb (isS T ln ps ch))) ((congrArg nI (bb_f hS1)).symm) ?_
    exact wretz hx hb hr hlk hK hS (()) (by show va_P G.1 vwCl [(x0, .inr (3, [.int (nI ln), .int (nI (ps + bb (isS T ln ps ch))), .int (nI kd), .int fi, .int se, .int (nI pa), .ref x1, .ref x2])), (x1, .inl (G.2 0, 4, .inl (nA DG))), (x2, .inl (G.2 1, 60, .inl (nA T)))] _; rw [e]; exact hP) (by show va_D _ [(x0, .inr (3, [.int (nI ln), .int (nI (ps + bb (isS T ln ps ch))), .int (nI kd), .int fi, .int se, .int (nI pa), .ref x1, .ref x2])), (x1, .inl (G.2 0, 4, .inl (nA DG))), (x2, .inl (G.2 1, 60, .inl (nA T)))]; rw [e]; exact hD) rfl (⟨rfl, trivial⟩) dX3_readSign_37
  · skip
    refine lv_aload_n hx hb dX3_readSign_11 rfl (lv_at hl 0 rfl) ?_
    refine va_get (D := G.1) (ci := 3) (v := .ref x2) (C := RX3) (T := TX3) (N := 8) hx hb hts hF3 hown hK hP 0 rfl rfl 7 (by decide) (hts (.fieldLink RX3 15 "CousinShares$OrderText" "signs" "[C") (List.mem_of_getElem? (i := 3) rfl)) (fun _ h9 => h9) rfl dX3_readSign_12 ?_
    refine lv_aload_n hx hb dX3_readSign_15 rfl (lv_at hl 0 rfl) ?_
    refine va_get (D := G.1) (ci := 3) (v := .int (nI ps)) (C := RX3) (T := TX3) (N := 8) hx hb hts hF3 hown hK hP 0 rfl rfl 1 (by decide) (hts (.fieldLink RX3 23 "CousinShares$OrderText" "at" "I") (List.mem_of_getElem? (i := 1) rfl)) (fun _ h9 => h9) rfl dX3_readSign_16 ?_
    refine nr_cald hx hb hK hP 2 rfl (by omega) (by decide) dX3_readSign_19 ?_
    have hTp := hT ps (by omega)
    refine lv_iload_n hx hb dX3_readSign_20 rfl (lv_at hl 1 rfl) ?_
    refine br_ine (tgt := 36) hx hb dX3_readSign_21 (by decide) (by omega) (by omega) (fun h2 => ?_) (fun h2 => ?_)
    · skip
      have hS1 : ¬ (isS T ln ps ch) := (by first | exact fun q => absurd q.1 (by omega) | exact fun q => absurd q.2 (by assumption))
      have e : ps + bb (isS T ln ps ch) = ps + 0 := by rw [bb_f hS1]
      refine nr_const (v := 0) hx hb dX3_readSign_36 rfl ?_
      refine nr_top (y := nI (bb (isS T ln ps ch))) ((congrArg nI (bb_f hS1)).symm) ?_
      exact wretz hx hb hr hlk hK hS (()) (by show va_P G.1 vwCl [(x0, .inr (3, [.int (nI ln), .int (nI (ps + bb (isS T ln ps ch))), .int (nI kd), .int fi, .int se, .int (nI pa), .ref x1, .ref x2])), (x1, .inl (G.2 0, 4, .inl (nA DG))), (x2, .inl (G.2 1, 60, .inl (nA T)))] _; rw [e]; exact hP) (by show va_D _ [(x0, .inr (3, [.int (nI ln), .int (nI (ps + bb (isS T ln ps ch))), .int (nI kd), .int fi, .int se, .int (nI pa), .ref x1, .ref x2])), (x1, .inl (G.2 0, 4, .inl (nA DG))), (x2, .inl (G.2 1, 60, .inl (nA T)))]; rw [e]; exact hD) rfl (⟨rfl, trivial⟩) dX3_readSign_37
    · skip
      refine lv_aload_n hx hb dX3_readSign_24 rfl (lv_at hl 0 rfl) ?_
      refine lv_dup hx hb dX3_readSign_25 rfl ?_
      refine va_get (D := G.1) (ci := 3) (v := .int (nI ps)) (C := RX3) (T := TX3) (N := 8) hx hb hts hF3 hown hK hP 0 rfl rfl 1 (by decide) (hts (.fieldLink RX3 23 "CousinShares$OrderText" "at" "I") (List.mem_of_getElem? (i := 1) rfl)) (fun _ h9 => h9) rfl dX3_readSign_26 ?_
      refine nr_const (v := 1) hx hb dX3_readSign_29 rfl ?_
      refine nr_add hx hb dX3_readSign_30 ?_
      refine va_put (D := G.1) (ci := 3) (v := .int (nI (ps + 1))) (ty := .int) (C := RX3) (T := TX3) (N := 8) hx hb hts hF3 tyX3 tyX3_ok nmX3 hown hK hP hD hS 0 rfl rfl 1 (by decide) (hts (.fieldLink RX3 23 "CousinShares$OrderText" "at" "I") (List.mem_of_getElem? (i := 1) rfl)) (fun _ h9 => h9) rfl (by decide +kernel) rfl rfl (Nat.le_of_ble_eq_true rfl) dX3_readSign_31 (fun H locs hP hD hS => ?_)
      have hP : va_P G.1 vwCl [(x0, .inr (3, [.int (nI ln), .int (nI (ps + 1)), .int (nI kd), .int fi, .int se, .int (nI pa), .ref x1, .ref x2])), (x1, .inl (G.2 0, 4, .inl (nA DG))), (x2, .inl (G.2 1, 60, .inl (nA T)))] _ := hP
      have hD : va_D AA [(x0, .inr (3, [.int (nI ln), .int (nI (ps + 1)), .int (nI kd), .int fi, .int se, .int (nI pa), .ref x1, .ref x2])), (x1, .inl (G.2 0, 4, .inl (nA DG))), (x2, .inl (G.2 1, 60, .inl (nA T)))] := hD
      have hS1 : (isS T ln ps ch) := ⟨by omega, by assumption⟩
      have e : ps + bb (isS T ln ps ch) = ps + 1 := by rw [bb_t hS1]
      refine nr_const (v := 1) hx hb dX3_readSign_34 rfl ?_
      refine nr_top (y := nI (bb (isS T ln ps ch))) ((congrArg nI (bb_t hS1)).symm) ?_
      exact wretz hx hb hr hlk hK hS (()) (by show va_P G.1 vwCl [(x0, .inr (3, [.int (nI ln), .int (nI (ps + bb (isS T ln ps ch))), .int (nI kd), .int fi, .int se, .int (nI pa), .ref x1, .ref x2])), (x1, .inl (G.2 0, 4, .inl (nA DG))), (x2, .inl (G.2 1, 60, .inl (nA T)))] _; rw [e]; exact hP) (by show va_D _ [(x0, .inr (3, [.int (nI ln), .int (nI (ps + bb (isS T ln ps ch))), .int (nI kd), .int fi, .int se, .int (nI pa), .ref x1, .ref x2])), (x1, .inl (G.2 0, 4, .inl (nA DG))), (x2, .inl (G.2 1, 60, .inl (nA T)))]; rw [e]; exact hD) rfl (⟨rfl, trivial⟩) dX3_readSign_35)

set_option maxHeartbeats 4000000 in
set_option maxRecDepth 100000 in
theorem c_X3_readDigit (l : Launch) (G : gG) (x0 : Nat) (x1 : Nat) (x2 : Nat) (ln : Nat) (ps : Nat) (kd : Nat) (fi : Int32) (se : Int32) (pa : Nat) (DG : Nat → Nat) (T : Nat → Nat) (lo : Nat) (gI : Int32) (g : Nat) (hps : ps ≤ 1000) (hln : ln ≤ 60) (hT : ∀ j, j < 60 → T j < 65536) (hlo : lo ≤ 9) (hg : ∀ d, d < 10 → (¬ gI < nI d ↔ d < g)) (hg9 : ¬ nI 9 < gI) (sz : Nat) : Met l yX3_readDigit wsX3_readDigit ({ frames := 0, cells := 0, slots := 0, locals := 0 } : Room) (WR G [(x0, .inr (3, [.int (nI ln), .int (nI ps), .int (nI kd), .int fi, .int se, .int (nI pa), .ref x1, .ref x2])), (x1, .inl (G.2 0, 4, .inl (nA DG))), (x2, .inl (G.2 1, 60, .inl (nA T)))] sz [.ref x0, .int (nI lo), .int gI]) (va_Qi (fun (r : Int32) (_ : Unit) => r = rdI T ln ps lo g ∧ (True)) (WB G (va_A [(x0, .inr (3, [.int (nI ln), .int (nI ps), .int (nI kd), .int fi, .int se, .int (nI pa), .ref x1, .ref x2])), (x1, .inl (G.2 0, 4, .inl (nA DG))), (x2, .inl (G.2 1, 60, .inl (nA T)))] sz) (fun _ : Unit => [(x0, .inr (3, [.int (nI ln), .int (nI (ps + bb (rdk T ln ps lo g))), .int (nI kd), .int fi, .int se, .int (nI pa), .ref x1, .ref x2])), (x1, .inl (G.2 0, 4, .inl (nA DG))), (x2, .inl (G.2 1, 60, .inl (nA T)))])) (va_A [(x0, .inr (3, [.int (nI ln), .int (nI ps), .int (nI kd), .int fi, .int se, .int (nI pa), .ref x1, .ref x2])), (x1, .inl (G.2 0, 4, .inl (nA DG))), (x2, .inl (G.2 1, 60, .inl (nA T)))] sz)) 0 0 (va_A [(x0, .inr (3, [.int (nI ln), .int (nI ps), .int (nI kd), .int fi, .int se, .int (nI pa), .ref x1, .ref x2])), (x1, .inl (G.2 0, 4, .inl (nA DG))), (x2, .inl (G.2 1, 60, .inl (nA T)))] sz) := wrM (Qf := fun AA => va_Qi (fun (r : Int32) (_ : Unit) => r = rdI T ln ps lo g ∧ (True)) (WB G AA (fun _ : Unit => [(x0, .inr (3, [.int (nI ln), .int (nI (ps + bb (rdk T ln ps lo g))), .int (nI kd), .int fi, .int se, .int (nI pa), .ref x1, .ref x2])), (x1, .inl (G.2 0, 4, .inl (nA DG))), (x2, .inl (G.2 1, 60, .inl (nA T)))])) AA) (C := RX3) rfl (by decide) rfl (Nat.le_of_ble_eq_true rfl) (fun pX eX sX mX bX meX cX ls AA hx hb hr hts hown hlk hml hin hP hK hD hAA hS hl => by
  have hl : lv_has ls 4 [(0, .ref x0), (1, .int (nI lo)), (2, .int gI)] := hl
  have hF3 : ∀ w ∈ wsX30, w ∈ wsX3_readDigit := fun _ h => (List.mem_cons_of_mem _ (List.mem_append_right _ h))
  refine lv_aload_n hx hb dX3_readDigit_0 rfl (lv_at hl 0 rfl) ?_
  refine va_get (D := G.1) (ci := 3) (v := .int (nI ps)) (C := RX3) (T := TX3) (N := 8) hx hb hts hF3 hown hK hP 0 rfl rfl 1 (by decide) (hts (.fieldLink RX3 23 "CousinShares$OrderText" "at" "I") (List.mem_of_getElem? (i := 1) rfl)) (fun _ h9 => h9) rfl dX3_readDigit_1 ?_
  refine lv_aload_n hx hb dX3_readDigit_4 rfl (lv_at hl 0 rfl) ?_
  refine va_get (D := G.1) (ci := 3) (v := .int (nI ln)) (C := RX3) (T := TX3) (N := 8) hx hb hts hF3 hown hK hP 0 rfl rfl 0 (by decide) (hts (.fieldLink RX3 19 "CousinShares$OrderText" "length" "I") (List.mem_of_getElem? (i := 2) rfl)) (fun _ h9 => h9) rfl dX3_readDigit_5 ?_
  refine br_ilt (tgt := 13) hx hb dX3_readDigit_8 (by decide) (by omega) (by omega) (fun h1 => ?_) (fun h1 => ?_)
  · skip
    refine lv_aload_n hx hb dX3_readDigit_13 rfl (lv_at hl 0 rfl) ?_
    refine va_get (D := G.1) (ci := 3) (v := .ref x2) (C := RX3) (T := TX3) (N := 8) hx hb hts hF3 hown hK hP 0 rfl rfl 7 (by decide) (hts (.fieldLink RX3 15 "CousinShares$OrderText" "signs" "[C") (List.mem_of_getElem? (i := 3) rfl)) (fun _ h9 => h9) rfl dX3_readDigit_14 ?_
    refine lv_aload_n hx hb dX3_readDigit_17 rfl (lv_at hl 0 rfl) ?_
    refine va_get (D := G.1) (ci := 3) (v := .int (nI ps)) (C := RX3) (T := TX3) (N := 8) hx hb hts hF3 hown hK hP 0 rfl rfl 1 (by decide) (hts (.fieldLink RX3 23 "CousinShares$OrderText" "at" "I") (List.mem_of_getElem? (i := 1) rfl)) (fun _ h9 => h9) rfl dX3_readDigit_18 ?_
    refine nr_cald hx hb hK hP 2 rfl (by omega) (by decide) dX3_readDigit_21 ?_
    refine nr_bi (v := 48) hx hb dX3_readDigit_22 (by decide +kernel) ?_
    refine lv_isub hx hb dX3_readDigit_24 ?_
    refine lv_istore_n (lv' := [(3, .int ((nI (T ps)) - (nI 48))), (0, .ref x0), (1, .int (nI lo)), (2, .int gI)]) hx hb dX3_readDigit_25 rfl hl (by decide) rfl (fun ls hl => ?_)
    refine lv_iload_n hx hb dX3_readDigit_26 rfl (lv_at hl 0 rfl) ?_
    refine lv_iload_n hx hb dX3_readDigit_27 rfl (lv_at hl 2 rfl) ?_
    refine lv_icmp_lt (tgt := 36) hx hb dX3_readDigit_28 (by decide) (fun h2 => ?_) (fun h2 => ?_)
    · skip
      refine lv_iconst (v := (-1)) hx hb dX3_readDigit_36 (by decide +kernel) ?_
      have hS1 : ¬ (rdk T ln ps lo g) := (by first | exact rd_a (by assumption) | exact rd_b (hT ps (by omega)) hlo (by assumption) | exact rd_c (hT ps (by omega)) hg (by assumption))
      have e : ps + bb (rdk T ln ps lo g) = ps + 0 := by rw [bb_f hS1]
      exact wret hx hb hr hlk hK hS (()) (by show va_P G.1 vwCl [(x0, .inr (3, [.int (nI ln), .int (nI (ps + bb (rdk T ln ps lo g))), .int (nI kd), .int fi, .int se, .int (nI pa), .ref x1, .ref x2])), (x1, .inl (G.2 0, 4, .inl (nA DG))), (x2, .inl (G.2 1, 60, .inl (nA T)))] _; rw [e]; exact hP) (by show va_D _ [(x0, .inr (3, [.int (nI ln), .int (nI (ps + bb (rdk T ln ps lo g))), .int (nI kd), .int fi, .int se, .int (nI pa), .ref x1, .ref x2])), (x1, .inl (G.2 0, 4, .inl (nA DG))), (x2, .inl (G.2 1, 60, .inl (nA T)))]; rw [e]; exact hD) (⟨(rdI_n hS1).symm, trivial⟩) dX3_readDigit_37
    · skip
      refine lv_iload_n hx hb dX3_readDigit_31 rfl (lv_at hl 0 rfl) ?_
      refine lv_iload_n hx hb dX3_readDigit_32 rfl (lv_at hl 3 rfl) ?_
      refine lv_icmp_le (tgt := 38) hx hb dX3_readDigit_33 (by decide) (fun h3 => ?_) (fun h3 => ?_)
      · skip
        refine lv_aload_n hx hb dX3_readDigit_38 rfl (lv_at hl 1 rfl) ?_
        refine lv_dup hx hb dX3_readDigit_39 rfl ?_
        refine va_get (D := G.1) (ci := 3) (v := .int (nI ps)) (C := RX3) (T := TX3) (N := 8) hx hb hts hF3 hown hK hP 0 rfl rfl 1 (by decide) (hts (.fieldLink RX3 23 "CousinShares$OrderText" "at" "I") (List.mem_of_getElem? (i := 1) rfl)) (fun _ h9 => h9) rfl dX3_readDigit_40 ?_
        refine nr_const (v := 1) hx hb dX3_readDigit_43 rfl ?_
        refine nr_add hx hb dX3_readDigit_44 ?_
        refine va_put (D := G.1) (ci := 3) (v := .int (nI (ps + 1))) (ty := .int) (C := RX3) (T := TX3) (N := 8) hx hb hts hF3 tyX3 tyX3_ok nmX3 hown hK hP hD hS 0 rfl rfl 1 (by decide) (hts (.fieldLink RX3 23 "CousinShares$OrderText" "at" "I") (List.mem_of_getElem? (i := 1) rfl)) (fun _ h9 => h9) rfl (by decide +kernel) rfl rfl (Nat.le_of_ble_eq_true rfl) dX3_readDigit_45 (fun H locs hP hD hS => ?_)
        have hP : va_P G.1 vwCl [(x0, .inr (3, [.int (nI ln), .int (nI (ps + 1)), .int (nI kd), .int fi, .int se, .int (nI pa), .ref x1, .ref x2])), (x1, .inl (G.2 0, 4, .inl (nA DG))), (x2, .inl (G.2 1, 60, .inl (nA T)))] _ := hP
        have hD : va_D AA [(x0, .inr (3, [.int (nI ln), .int (nI (ps + 1)), .int (nI kd), .int fi, .int se, .int (nI pa), .ref x1, .ref x2])), (x1, .inl (G.2 0, 4, .inl (nA DG))), (x2, .inl (G.2 1, 60, .inl (nA T)))] := hD
        refine lv_iload_n hx hb dX3_readDigit_48 rfl (lv_at hl 0 rfl) ?_
        have hS1 : (rdk T ln ps lo g) := (rd_y (hT ps (by omega)) (by assumption) hlo hg hg9 (by assumption) (by assumption)).1
        have hS2 := (rd_y (g := g) (hT ps (by omega)) (by assumption) hlo hg hg9 (by assumption) (by assumption)).2
        have e : ps + bb (rdk T ln ps lo g) = ps + 1 := by rw [bb_t hS1]
        exact wret hx hb hr hlk hK hS (()) (by show va_P G.1 vwCl [(x0, .inr (3, [.int (nI ln), .int (nI (ps + bb (rdk T ln ps lo g))), .int (nI kd), .int fi, .int se, .int (nI pa), .ref x1, .ref x2])), (x1, .inl (G.2 0, 4, .inl (nA DG))), (x2, .inl (G.2 1, 60, .inl (nA T)))] _; rw [e]; exact hP) (by show va_D _ [(x0, .inr (3, [.int (nI ln), .int (nI (ps + bb (rdk T ln ps lo g))), .int (nI kd), .int fi, .int se, .int (nI pa), .ref x1, .ref x2])), (x1, .inl (G.2 0, 4, .inl (nA DG))), (x2, .inl (G.2 1, 60, .inl (nA T)))]; rw [e]; exact hD) (⟨hS2.trans (rdI_p hS1).symm, trivial⟩) dX3_readDigit_49
      · skip
        refine lv_iconst (v := (-1)) hx hb dX3_readDigit_36 (by decide +kernel) ?_
        have hS1 : ¬ (rdk T ln ps lo g) := (by first | exact rd_a (by assumption) | exact rd_b (hT ps (by omega)) hlo (by assumption) | exact rd_c (hT ps (by omega)) hg (by assumption))
        have e : ps + bb (rdk T ln ps lo g) = ps + 0 := by rw [bb_f hS1]
        exact wret hx hb hr hlk hK hS (()) (by show va_P G.1 vwCl [(x0, .inr (3, [.int (nI ln), .int (nI (ps + bb (rdk T ln ps lo g))), .int (nI kd), .int fi, .int se, .int (nI pa), .ref x1, .ref x2])), (x1, .inl (G.2 0, 4, .inl (nA DG))), (x2, .inl (G.2 1, 60, .inl (nA T)))] _; rw [e]; exact hP) (by show va_D _ [(x0, .inr (3, [.int (nI ln), .int (nI (ps + bb (rdk T ln ps lo g))), .int (nI kd), .int fi, .int se, .int (nI pa), .ref x1, .ref x2])), (x1, .inl (G.2 0, 4, .inl (nA DG))), (x2, .inl (G.2 1, 60, .inl (nA T)))]; rw [e]; exact hD) (⟨(rdI_n hS1).symm, trivial⟩) dX3_readDigit_37
  · skip
    refine lv_iconst (v := (-1)) hx hb dX3_readDigit_11 (by decide +kernel) ?_
    have hS1 : ¬ (rdk T ln ps lo g) := (by first | exact rd_a (by assumption) | exact rd_b (hT ps (by omega)) hlo (by assumption) | exact rd_c (hT ps (by omega)) hg (by assumption))
    have e : ps + bb (rdk T ln ps lo g) = ps + 0 := by rw [bb_f hS1]
    exact wret hx hb hr hlk hK hS (()) (by show va_P G.1 vwCl [(x0, .inr (3, [.int (nI ln), .int (nI (ps + bb (rdk T ln ps lo g))), .int (nI kd), .int fi, .int se, .int (nI pa), .ref x1, .ref x2])), (x1, .inl (G.2 0, 4, .inl (nA DG))), (x2, .inl (G.2 1, 60, .inl (nA T)))] _; rw [e]; exact hP) (by show va_D _ [(x0, .inr (3, [.int (nI ln), .int (nI (ps + bb (rdk T ln ps lo g))), .int (nI kd), .int fi, .int se, .int (nI pa), .ref x1, .ref x2])), (x1, .inl (G.2 0, 4, .inl (nA DG))), (x2, .inl (G.2 1, 60, .inl (nA T)))]; rw [e]; exact hD) (⟨(rdI_n hS1).symm, trivial⟩) dX3_readDigit_12)

set_option maxHeartbeats 4000000 in
set_option maxRecDepth 100000 in
theorem c_X3_readCousin (l : Launch) (G : gG) (x0 : Nat) (x1 : Nat) (x2 : Nat) (ln : Nat) (ps : Nat) (kd : Nat) (fi : Int32) (se : Int32) (pa : Nat) (DG : Nat → Nat) (T : Nat → Nat) (hps : ps ≤ 1000) (hln : ln ≤ 60) (hT : ∀ j, j < 60 → T j < 65536) (sz : Nat) : Met l yX3_readCousin wsX3_readCousin ({ frames := 1, cells := 0, slots := 0, locals := 23 } : Room) (WR G [(x0, .inr (3, [.int (nI ln), .int (nI ps), .int (nI kd), .int fi, .int se, .int (nI pa), .ref x1, .ref x2])), (x1, .inl (G.2 0, 4, .inl (nA DG))), (x2, .inl (G.2 1, 60, .inl (nA T)))] sz [.ref x0]) (va_Qi (fun (r : Int32) (_ : Unit) => r = nI (bb (rdk T ln ps 0 7)) ∧ (True)) (WB G (va_A [(x0, .inr (3, [.int (nI ln), .int (nI ps), .int (nI kd), .int fi, .int se, .int (nI pa), .ref x1, .ref x2])), (x1, .inl (G.2 0, 4, .inl (nA DG))), (x2, .inl (G.2 1, 60, .inl (nA T)))] sz) (fun _ : Unit => [(x0, .inr (3, [.int (nI ln), .int (nI (ps + bb (rdk T ln ps 0 7))), .int (nI kd), .int (rdI T ln ps 0 7), .int se, .int (nI pa), .ref x1, .ref x2])), (x1, .inl (G.2 0, 4, .inl (nA DG))), (x2, .inl (G.2 1, 60, .inl (nA T)))])) (va_A [(x0, .inr (3, [.int (nI ln), .int (nI ps), .int (nI kd), .int fi, .int se, .int (nI pa), .ref x1, .ref x2])), (x1, .inl (G.2 0, 4, .inl (nA DG))), (x2, .inl (G.2 1, 60, .inl (nA T)))] sz)) 0 0 (va_A [(x0, .inr (3, [.int (nI ln), .int (nI ps), .int (nI kd), .int fi, .int se, .int (nI pa), .ref x1, .ref x2])), (x1, .inl (G.2 0, 4, .inl (nA DG))), (x2, .inl (G.2 1, 60, .inl (nA T)))] sz) := wrM (Qf := fun AA => va_Qi (fun (r : Int32) (_ : Unit) => r = nI (bb (rdk T ln ps 0 7)) ∧ (True)) (WB G AA (fun _ : Unit => [(x0, .inr (3, [.int (nI ln), .int (nI (ps + bb (rdk T ln ps 0 7))), .int (nI kd), .int (rdI T ln ps 0 7), .int se, .int (nI pa), .ref x1, .ref x2])), (x1, .inl (G.2 0, 4, .inl (nA DG))), (x2, .inl (G.2 1, 60, .inl (nA T)))])) AA) (C := RX3) rfl (by decide) rfl (Nat.le_of_ble_eq_true rfl) (fun pX eX sX mX bX meX cX ls AA hx hb hr hts hown hlk hml hin hP hK hD hAA hS hl => by
  have hl : lv_has ls 1 [(0, .ref x0)] := hl
  have hF3 : ∀ w ∈ wsX30, w ∈ wsX3_readCousin := fun _ h => (List.mem_cons_of_mem _ (List.mem_append_right _ h))
  refine lv_aload_n hx hb dX3_readCousin_0 rfl (lv_at hl 0 rfl) ?_
  refine lv_aload_n hx hb dX3_readCousin_1 rfl (lv_at hl 0 rfl) ?_
  refine nr_const (v := 0) hx hb dX3_readCousin_2 rfl ?_
  refine nr_bi (v := 6) hx hb dX3_readCousin_3 (by decide +kernel) ?_
  refine wcVi (q := (RX3, TX3, 8)) (As := [.int (nI 0), .int (nI 6)]) (ws := [(x0, .inr (3, [.int (nI ln), .int (nI ps), .int (nI kd), .int fi, .int se, .int (nI pa), .ref x1, .ref x2])), (x1, .inl (G.2 0, 4, .inl (nA DG))), (x2, .inl (G.2 1, 60, .inl (nA T)))]) (wc := [(x0, .inr (3, [.int (nI ln), .int (nI ps), .int (nI kd), .int fi, .int se, .int (nI pa), .ref x1, .ref x2])), (x1, .inl (G.2 0, 4, .inl (nA DG))), (x2, .inl (G.2 1, 60, .inl (nA T)))]) (wr := []) (wn := fun _ => [(x0, .inr (3, [.int (nI ln), .int (nI (ps + bb (rdk T ln ps 0 7))), .int (nI kd), .int fi, .int se, .int (nI pa), .ref x1, .ref x2])), (x1, .inl (G.2 0, 4, .inl (nA DG))), (x2, .inl (G.2 1, 60, .inl (nA T)))]) ⟨hx, hb, hml, hown, hts⟩ (c_X3_readDigit l G x0 x1 x2 ln ps kd fi se pa DG T 0 (nI 6) 7 (by omega) (by omega) hT (by omega) (bd_n (g := 7) (by decide) (by decide)).1 (bd_n (g := 7) (by decide) (by decide)).2 _) (cwV 2 hts gX3_readCousin_X3_readDigit rfl rfl rfl (by decide +kernel) ⟨Nat.le_of_ble_eq_true rfl, Nat.le_of_ble_eq_true rfl⟩) hK hP hD hS hAA [0, 1, 2] [] [0, 1, 2] rfl rfl rfl rfl (by decide) rfl (fun _ => rfl) 3 0 rfl rfl rfl hl.1 rfl (Nat.le_of_ble_eq_true rfl) dX3_readCousin_5 ⟨by first | exact Nat.le_of_ble_eq_true rfl | omega, by first | exact Nat.le_of_ble_eq_true rfl | omega⟩ (fun rr2 uu H locs hw1 hP hD hS => ?_)
  have hP : va_P G.1 vwCl [(x0, .inr (3, [.int (nI ln), .int (nI (ps + bb (rdk T ln ps 0 7))), .int (nI kd), .int fi, .int se, .int (nI pa), .ref x1, .ref x2])), (x1, .inl (G.2 0, 4, .inl (nA DG))), (x2, .inl (G.2 1, 60, .inl (nA T)))] _ := hP
  have hD : va_D AA [(x0, .inr (3, [.int (nI ln), .int (nI (ps + bb (rdk T ln ps 0 7))), .int (nI kd), .int fi, .int se, .int (nI pa), .ref x1, .ref x2])), (x1, .inl (G.2 0, 4, .inl (nA DG))), (x2, .inl (G.2 1, 60, .inl (nA T)))] := hD
  obtain ⟨hrhw1, hw1⟩ := hw1
  subst hrhw1
  by_cases h3 : rdk T ln ps 0 7
  · skip
    refine nr_top (rdI_p h3) ?_
    rw [bb_t h3] at hP hD
    have hP : va_P G.1 vwCl [(x0, .inr (3, [.int (nI ln), .int (nI (ps + 1)), .int (nI kd), .int fi, .int se, .int (nI pa), .ref x1, .ref x2])), (x1, .inl (G.2 0, 4, .inl (nA DG))), (x2, .inl (G.2 1, 60, .inl (nA T)))] _ := hP
    have hD : va_D AA [(x0, .inr (3, [.int (nI ln), .int (nI (ps + 1)), .int (nI kd), .int fi, .int se, .int (nI pa), .ref x1, .ref x2])), (x1, .inl (G.2 0, 4, .inl (nA DG))), (x2, .inl (G.2 1, 60, .inl (nA T)))] := hD
    refine va_put (D := G.1) (ci := 3) (v := .int (nI (dgt T ln ps))) (ty := .int) (C := RX3) (T := TX3) (N := 8) hx hb hts hF3 tyX3 tyX3_ok nmX3 hown hK hP hD hS 0 rfl rfl 3 (by decide) (hts (.fieldLink RX3 57 "CousinShares$OrderText" "first" "I") (List.mem_of_getElem? (i := 1) rfl)) (fun _ h9 => h9) rfl (by decide +kernel) rfl rfl (Nat.le_of_ble_eq_true rfl) dX3_readCousin_8 (fun H locs hP hD hS => ?_)
    have hP : va_P G.1 vwCl [(x0, .inr (3, [.int (nI ln), .int (nI (ps + 1)), .int (nI kd), .int (nI (dgt T ln ps)), .int se, .int (nI pa), .ref x1, .ref x2])), (x1, .inl (G.2 0, 4, .inl (nA DG))), (x2, .inl (G.2 1, 60, .inl (nA T)))] _ := hP
    have hD : va_D AA [(x0, .inr (3, [.int (nI ln), .int (nI (ps + 1)), .int (nI kd), .int (nI (dgt T ln ps)), .int se, .int (nI pa), .ref x1, .ref x2])), (x1, .inl (G.2 0, 4, .inl (nA DG))), (x2, .inl (G.2 1, 60, .inl (nA T)))] := hD
    refine lv_aload_n hx hb dX3_readCousin_11 rfl (lv_at hl 0 rfl) ?_
    refine va_get (D := G.1) (ci := 3) (v := .int (nI (dgt T ln ps))) (C := RX3) (T := TX3) (N := 8) hx hb hts hF3 hown hK hP 0 rfl rfl 3 (by decide) (hts (.fieldLink RX3 57 "CousinShares$OrderText" "first" "I") (List.mem_of_getElem? (i := 1) rfl)) (fun _ h9 => h9) rfl dX3_readCousin_12 ?_
    refine br_lt0 (tgt := 22) hx hb dX3_readCousin_15 (by decide) (by omega) ?_
    refine nr_const (v := 1) hx hb dX3_readCousin_18 rfl ?_
    refine nr_top (y := nI (bb (rdk T ln ps 0 7))) ((congrArg nI (bb_t (by assumption))).symm) ?_
    refine lv_goto (tgt := 23) hx hb dX3_readCousin_19 (by decide) ?_
    exact wretz hx hb hr hlk hK hS (()) (by show va_P G.1 vwCl [(x0, .inr (3, [.int (nI ln), .int (nI (ps + bb (rdk T ln ps 0 7))), .int (nI kd), .int (rdI T ln ps 0 7), .int se, .int (nI pa), .ref x1, .ref x2])), (x1, .inl (G.2 0, 4, .inl (nA DG))), (x2, .inl (G.2 1, 60, .inl (nA T)))] _; rw [bb_t h3, rdI_p h3]; exact hP) (by show va_D _ [(x0, .inr (3, [.int (nI ln), .int (nI (ps + bb (rdk T ln ps 0 7))), .int (nI kd), .int (rdI T ln ps 0 7), .int se, .int (nI pa), .ref x1, .ref x2])), (x1, .inl (G.2 0, 4, .inl (nA DG))), (x2, .inl (G.2 1, 60, .inl (nA T)))]; rw [bb_t h3, rdI_p h3]; exact hD) rfl (⟨rfl, trivial⟩) dX3_readCousin_23
  · skip
    refine nr_top (rdI_n h3) ?_
    rw [bb_f h3] at hP hD
    have hP : va_P G.1 vwCl [(x0, .inr (3, [.int (nI ln), .int (nI ps), .int (nI kd), .int fi, .int se, .int (nI pa), .ref x1, .ref x2])), (x1, .inl (G.2 0, 4, .inl (nA DG))), (x2, .inl (G.2 1, 60, .inl (nA T)))] _ := hP
    have hD : va_D AA [(x0, .inr (3, [.int (nI ln), .int (nI ps), .int (nI kd), .int fi, .int se, .int (nI pa), .ref x1, .ref x2])), (x1, .inl (G.2 0, 4, .inl (nA DG))), (x2, .inl (G.2 1, 60, .inl (nA T)))] := hD
    refine va_put (D := G.1) (ci := 3) (v := .int (-1)) (ty := .int) (C := RX3) (T := TX3) (N := 8) hx hb hts hF3 tyX3 tyX3_ok nmX3 hown hK hP hD hS 0 rfl rfl 3 (by decide) (hts (.fieldLink RX3 57 "CousinShares$OrderText" "first" "I") (List.mem_of_getElem? (i := 1) rfl)) (fun _ h9 => h9) rfl (by decide +kernel) rfl rfl (Nat.le_of_ble_eq_true rfl) dX3_readCousin_8 (fun H locs hP hD hS => ?_)
    have hP : va_P G.1 vwCl [(x0, .inr (3, [.int (nI ln), .int (nI ps), .int (nI kd), .int (-1), .int se, .int (nI pa), .ref x1, .ref x2])), (x1, .inl (G.2 0, 4, .inl (nA DG))), (x2, .inl (G.2 1, 60, .inl (nA T)))] _ := hP
    have hD : va_D AA [(x0, .inr (3, [.int (nI ln), .int (nI ps), .int (nI kd), .int (-1), .int se, .int (nI pa), .ref x1, .ref x2])), (x1, .inl (G.2 0, 4, .inl (nA DG))), (x2, .inl (G.2 1, 60, .inl (nA T)))] := hD
    refine lv_aload_n hx hb dX3_readCousin_11 rfl (lv_at hl 0 rfl) ?_
    refine va_get (D := G.1) (ci := 3) (v := .int (-1)) (C := RX3) (T := TX3) (N := 8) hx hb hts hF3 hown hK hP 0 rfl rfl 3 (by decide) (hts (.fieldLink RX3 57 "CousinShares$OrderText" "first" "I") (List.mem_of_getElem? (i := 1) rfl)) (fun _ h9 => h9) rfl dX3_readCousin_12 ?_
    refine join_v (T := Unit) (J := 23) (nL := 1) (fun v => [(0, .ref x0)]) (fun v => [.int (nI (bb (rdk T ln ps 0 7)))]) (fun v => True) ?_ (fun jj4 => ?_)
    · intro v ls hl hv5
      exact wretz hx hb hr hlk hK hS (()) (by show va_P G.1 vwCl [(x0, .inr (3, [.int (nI ln), .int (nI (ps + bb (rdk T ln ps 0 7))), .int (nI kd), .int (rdI T ln ps 0 7), .int se, .int (nI pa), .ref x1, .ref x2])), (x1, .inl (G.2 0, 4, .inl (nA DG))), (x2, .inl (G.2 1, 60, .inl (nA T)))] _; rw [bb_f h3, rdI_n h3]; exact hP) (by show va_D _ [(x0, .inr (3, [.int (nI ln), .int (nI (ps + bb (rdk T ln ps 0 7))), .int (nI kd), .int (rdI T ln ps 0 7), .int se, .int (nI pa), .ref x1, .ref x2])), (x1, .inl (G.2 0, 4, .inl (nA DG))), (x2, .inl (G.2 1, 60, .inl (nA T)))]; rw [bb_f h3, rdI_n h3]; exact hD) rfl (⟨rfl, trivial⟩) dX3_readCousin_23
    · skip
      refine lv_if_lt (tgt := 22) hx hb dX3_readCousin_15 (by decide) (fun h6 => ?_) (fun h6 => ?_)
      · skip
        refine nr_const (v := 0) hx hb dX3_readCousin_22 rfl ?_
        refine nr_top (y := nI (bb (rdk T ln ps 0 7))) ((congrArg nI (bb_f (by assumption))).symm) ?_
        exact jj4 () ls (lv_sub hl [0] rfl) trivial
      · exact absurd (by decide) h6)

set_option maxHeartbeats 4000000 in
set_option maxRecDepth 100000 in
theorem c_X3_readPlot (l : Launch) (G : gG) (x0 : Nat) (x1 : Nat) (x2 : Nat) (ln : Nat) (ps : Nat) (kd : Nat) (fi : Int32) (se : Int32) (pa : Nat) (DG : Nat → Nat) (T : Nat → Nat) (hps : ps ≤ 1000) (hln : ln ≤ 60) (hT : ∀ j, j < 60 → T j < 65536) (sz : Nat) : Met l yX3_readPlot wsX3_readPlot ({ frames := 1, cells := 0, slots := 0, locals := 40 } : Room) (WR G [(x0, .inr (3, [.int (nI ln), .int (nI ps), .int (nI kd), .int fi, .int se, .int (nI pa), .ref x1, .ref x2])), (x1, .inl (G.2 0, 4, .inl (nA DG))), (x2, .inl (G.2 1, 60, .inl (nA T)))] sz [.ref x0]) (va_Qi (fun (r : Int32) (_ : Unit) => r = nI (bb ((pE T ln ps).1 = true)) ∧ (True)) (WB G (va_A [(x0, .inr (3, [.int (nI ln), .int (nI ps), .int (nI kd), .int fi, .int se, .int (nI pa), .ref x1, .ref x2])), (x1, .inl (G.2 0, 4, .inl (nA DG))), (x2, .inl (G.2 1, 60, .inl (nA T)))] sz) (fun _ : Unit => [(x0, .inr (3, [.int (nI ln), .int (nI ((pE T ln ps).2)), .int (nI kd), .int (pF T ln ps), .int se, .int (nI pa), .ref x1, .ref x2])), (x1, .inl (G.2 0, 4, .inl (nA DG))), (x2, .inl (G.2 1, 60, .inl (nA T)))])) (va_A [(x0, .inr (3, [.int (nI ln), .int (nI ps), .int (nI kd), .int fi, .int se, .int (nI pa), .ref x1, .ref x2])), (x1, .inl (G.2 0, 4, .inl (nA DG))), (x2, .inl (G.2 1, 60, .inl (nA T)))] sz)) 0 0 (va_A [(x0, .inr (3, [.int (nI ln), .int (nI ps), .int (nI kd), .int fi, .int se, .int (nI pa), .ref x1, .ref x2])), (x1, .inl (G.2 0, 4, .inl (nA DG))), (x2, .inl (G.2 1, 60, .inl (nA T)))] sz) := wrM (Qf := fun AA => va_Qi (fun (r : Int32) (_ : Unit) => r = nI (bb ((pE T ln ps).1 = true)) ∧ (True)) (WB G AA (fun _ : Unit => [(x0, .inr (3, [.int (nI ln), .int (nI ((pE T ln ps).2)), .int (nI kd), .int (pF T ln ps), .int se, .int (nI pa), .ref x1, .ref x2])), (x1, .inl (G.2 0, 4, .inl (nA DG))), (x2, .inl (G.2 1, 60, .inl (nA T)))])) AA) (C := RX3) rfl (by decide) rfl (Nat.le_of_ble_eq_true rfl) (fun pX eX sX mX bX meX cX ls AA hx hb hr hts hown hlk hml hin hP hK hD hAA hS hl => by
  have hl : lv_has ls 2 [(0, .ref x0)] := hl
  have hF3 : ∀ w ∈ wsX30, w ∈ wsX3_readPlot := fun _ h => (List.mem_cons_of_mem _ (List.mem_append_right _ h))
  refine lv_aload_n hx hb dX3_readPlot_0 rfl (lv_at hl 0 rfl) ?_
  refine lv_aload_n hx hb dX3_readPlot_1 rfl (lv_at hl 0 rfl) ?_
  refine nr_const (v := 0) hx hb dX3_readPlot_2 rfl ?_
  refine nr_bi (v := 9) hx hb dX3_readPlot_3 (by decide +kernel) ?_
  refine wcVi (q := (RX3, TX3, 8)) (As := [.int (nI 0), .int (nI 9)]) (ws := [(x0, .inr (3, [.int (nI ln), .int (nI ps), .int (nI kd), .int fi, .int se, .int (nI pa), .ref x1, .ref x2])), (x1, .inl (G.2 0, 4, .inl (nA DG))), (x2, .inl (G.2 1, 60, .inl (nA T)))]) (wc := [(x0, .inr (3, [.int (nI ln), .int (nI ps), .int (nI kd), .int fi, .int se, .int (nI pa), .ref x1, .ref x2])), (x1, .inl (G.2 0, 4, .inl (nA DG))), (x2, .inl (G.2 1, 60, .inl (nA T)))]) (wr := []) (wn := fun _ => [(x0, .inr (3, [.int (nI ln), .int (nI (ps + bb (rdk T ln ps 0 10))), .int (nI kd), .int fi, .int se, .int (nI pa), .ref x1, .ref x2])), (x1, .inl (G.2 0, 4, .inl (nA DG))), (x2, .inl (G.2 1, 60, .inl (nA T)))]) ⟨hx, hb, hml, hown, hts⟩ (c_X3_readDigit l G x0 x1 x2 ln ps kd fi se pa DG T 0 (nI 9) 10 (by omega) hln hT (by omega) (bd_n (g := 10) (by decide) (by decide)).1 (bd_n (g := 10) (by decide) (by decide)).2 _) (cwV 2 hts gX3_readPlot_X3_readDigit rfl rfl rfl (by decide +kernel) ⟨Nat.le_of_ble_eq_true rfl, Nat.le_of_ble_eq_true rfl⟩) hK hP hD hS hAA [0, 1, 2] [] [0, 1, 2] rfl rfl rfl rfl (by decide) rfl (fun _ => rfl) 3 0 rfl rfl rfl hl.1 rfl (Nat.le_of_ble_eq_true rfl) dX3_readPlot_5 ⟨by first | exact Nat.le_of_ble_eq_true rfl | omega, by first | exact Nat.le_of_ble_eq_true rfl | omega⟩ (fun rr2 uu H locs hw1 hP hD hS => ?_)
  have hP : va_P G.1 vwCl [(x0, .inr (3, [.int (nI ln), .int (nI (ps + bb (rdk T ln ps 0 10))), .int (nI kd), .int fi, .int se, .int (nI pa), .ref x1, .ref x2])), (x1, .inl (G.2 0, 4, .inl (nA DG))), (x2, .inl (G.2 1, 60, .inl (nA T)))] _ := hP
  have hD : va_D AA [(x0, .inr (3, [.int (nI ln), .int (nI (ps + bb (rdk T ln ps 0 10))), .int (nI kd), .int fi, .int se, .int (nI pa), .ref x1, .ref x2])), (x1, .inl (G.2 0, 4, .inl (nA DG))), (x2, .inl (G.2 1, 60, .inl (nA T)))] := hD
  obtain ⟨hrhw1, hw1⟩ := hw1
  subst hrhw1
  by_cases h3 : rdk T ln ps 0 10
  · skip
    refine nr_top (rdI_p h3) ?_
    rw [bb_t h3] at hP hD
    have hP : va_P G.1 vwCl [(x0, .inr (3, [.int (nI ln), .int (nI (ps + 1)), .int (nI kd), .int fi, .int se, .int (nI pa), .ref x1, .ref x2])), (x1, .inl (G.2 0, 4, .inl (nA DG))), (x2, .inl (G.2 1, 60, .inl (nA T)))] _ := hP
    have hD : va_D AA [(x0, .inr (3, [.int (nI ln), .int (nI (ps + 1)), .int (nI kd), .int fi, .int se, .int (nI pa), .ref x1, .ref x2])), (x1, .inl (G.2 0, 4, .inl (nA DG))), (x2, .inl (G.2 1, 60, .inl (nA T)))] := hD
    refine va_put (D := G.1) (ci := 3) (v := .int (nI (dgt T ln ps))) (ty := .int) (C := RX3) (T := TX3) (N := 8) hx hb hts hF3 tyX3 tyX3_ok nmX3 hown hK hP hD hS 0 rfl rfl 3 (by decide) (hts (.fieldLink RX3 57 "CousinShares$OrderText" "first" "I") (List.mem_of_getElem? (i := 1) rfl)) (fun _ h9 => h9) rfl (by decide +kernel) rfl rfl (Nat.le_of_ble_eq_true rfl) dX3_readPlot_8 (fun H locs hP hD hS => ?_)
    have hP : va_P G.1 vwCl [(x0, .inr (3, [.int (nI ln), .int (nI (ps + 1)), .int (nI kd), .int (nI (dgt T ln ps)), .int se, .int (nI pa), .ref x1, .ref x2])), (x1, .inl (G.2 0, 4, .inl (nA DG))), (x2, .inl (G.2 1, 60, .inl (nA T)))] _ := hP
    have hD : va_D AA [(x0, .inr (3, [.int (nI ln), .int (nI (ps + 1)), .int (nI kd), .int (nI (dgt T ln ps)), .int se, .int (nI pa), .ref x1, .ref x2])), (x1, .inl (G.2 0, 4, .inl (nA DG))), (x2, .inl (G.2 1, 60, .inl (nA T)))] := hD
    have hdl := dgt_le T ln ps
    have hdl2 := dgt_le T ln (ps + 1)
    refine lv_aload_n hx hb dX3_readPlot_11 rfl (lv_at hl 0 rfl) ?_
    refine va_get (D := G.1) (ci := 3) (v := .int (nI (dgt T ln ps))) (C := RX3) (T := TX3) (N := 8) hx hb hts hF3 hown hK hP 0 rfl rfl 3 (by decide) (hts (.fieldLink RX3 57 "CousinShares$OrderText" "first" "I") (List.mem_of_getElem? (i := 1) rfl)) (fun _ h9 => h9) rfl dX3_readPlot_12 ?_
    refine br_le0 (tgt := 56) hx hb dX3_readPlot_15 (by decide) (by omega) (fun h4 => ?_) (fun h4 => ?_)
    · skip
      refine lv_aload_n hx hb dX3_readPlot_56 rfl (lv_at hl 0 rfl) ?_
      refine va_get (D := G.1) (ci := 3) (v := .int (nI (dgt T ln ps))) (C := RX3) (T := TX3) (N := 8) hx hb hts hF3 hown hK hP 0 rfl rfl 3 (by decide) (hts (.fieldLink RX3 57 "CousinShares$OrderText" "first" "I") (List.mem_of_getElem? (i := 1) rfl)) (fun _ h9 => h9) rfl dX3_readPlot_57 ?_
      refine br_lt0 (tgt := 67) hx hb dX3_readPlot_60 (by decide) (by omega) ?_
      have e := pE_z h3 (by omega)
      refine nr_const (v := 1) hx hb dX3_readPlot_63 rfl ?_
      refine nr_top (y := nI (bb ((pE T ln ps).1 = true))) ((congrArg nI (bb_t (by rw [e.1]))).symm) ?_
      refine lv_goto (tgt := 68) hx hb dX3_readPlot_64 (by decide) ?_
      exact wretz hx hb hr hlk hK hS (()) (by show va_P G.1 vwCl [(x0, .inr (3, [.int (nI ln), .int (nI ((pE T ln ps).2)), .int (nI kd), .int (pF T ln ps), .int se, .int (nI pa), .ref x1, .ref x2])), (x1, .inl (G.2 0, 4, .inl (nA DG))), (x2, .inl (G.2 1, 60, .inl (nA T)))] _; rw [e.1, e.2]; exact hP) (by show va_D _ [(x0, .inr (3, [.int (nI ln), .int (nI ((pE T ln ps).2)), .int (nI kd), .int (pF T ln ps), .int se, .int (nI pa), .ref x1, .ref x2])), (x1, .inl (G.2 0, 4, .inl (nA DG))), (x2, .inl (G.2 1, 60, .inl (nA T)))]; rw [e.1, e.2]; exact hD) rfl (⟨rfl, trivial⟩) dX3_readPlot_68
    · skip
      refine lv_aload_n hx hb dX3_readPlot_18 rfl (lv_at hl 0 rfl) ?_
      refine nr_const (v := 0) hx hb dX3_readPlot_19 rfl ?_
      refine nr_bi (v := 9) hx hb dX3_readPlot_20 (by decide +kernel) ?_
      refine nr_bi (v := 23) hx hb dX3_readPlot_22 (by decide +kernel) ?_
      refine nr_bi (v := 10) hx hb dX3_readPlot_24 (by decide +kernel) ?_
      refine lv_aload_n hx hb dX3_readPlot_26 rfl (lv_at hl 0 rfl) ?_
      refine va_get (D := G.1) (ci := 3) (v := .int (nI (dgt T ln ps))) (C := RX3) (T := TX3) (N := 8) hx hb hts hF3 hown hK hP 0 rfl rfl 3 (by decide) (hts (.fieldLink RX3 57 "CousinShares$OrderText" "first" "I") (List.mem_of_getElem? (i := 1) rfl)) (fun _ h9 => h9) rfl dX3_readPlot_27 ?_
      refine nr_mul hx hb dX3_readPlot_30 ?_
      refine lv_isub hx hb dX3_readPlot_31 ?_
      refine va_mmin hx hb (hml.trans hl.1.symm) hown (hts (.methodLink RX3 60 Lib.Math.min.name) (List.mem_of_getElem? (i := 2) rfl)) (hts (.static Lib.Math.min.name) (List.mem_of_getElem? (i := 3) rfl)) (hts (.initialized "java/lang/Math") (List.mem_of_getElem? (i := 4) rfl)) (hts (.code Lib.Math.min.name Lib.Math.min.code 2 (some .int)) (List.mem_of_getElem? (i := 5) rfl)) (Nat.le_of_ble_eq_true rfl) (Nat.le_of_ble_eq_true rfl) (Nat.zero_le _) (Nat.zero_le _) dX3_readPlot_32 ?_
      refine wcVi (q := (RX3, TX3, 8)) (As := [.int (nI 0), .int (if (nI 23) - (nI (10 * (dgt T ln ps))) < nI 9 then (nI 23) - (nI (10 * (dgt T ln ps))) else nI 9)]) (ws := [(x0, .inr (3, [.int (nI ln), .int (nI (ps + 1)), .int (nI kd), .int (nI (dgt T ln ps)), .int se, .int (nI pa), .ref x1, .ref x2])), (x1, .inl (G.2 0, 4, .inl (nA DG))), (x2, .inl (G.2 1, 60, .inl (nA T)))]) (wc := [(x0, .inr (3, [.int (nI ln), .int (nI (ps + 1)), .int (nI kd), .int (nI (dgt T ln ps)), .int se, .int (nI pa), .ref x1, .ref x2])), (x1, .inl (G.2 0, 4, .inl (nA DG))), (x2, .inl (G.2 1, 60, .inl (nA T)))]) (wr := []) (wn := fun _ => [(x0, .inr (3, [.int (nI ln), .int (nI ((ps + 1) + bb (rdk T ln (ps + 1) 0 (pg (dgt T ln ps))))), .int (nI kd), .int (nI (dgt T ln ps)), .int se, .int (nI pa), .ref x1, .ref x2])), (x1, .inl (G.2 0, 4, .inl (nA DG))), (x2, .inl (G.2 1, 60, .inl (nA T)))]) ⟨hx, hb, hml, hown, hts⟩ (c_X3_readDigit l G x0 x1 x2 ln (ps + 1) kd (nI (dgt T ln ps)) se pa DG T 0 (if (nI 23) - (nI (10 * (dgt T ln ps))) < nI 9 then (nI 23) - (nI (10 * (dgt T ln ps))) else nI 9) (pg (dgt T ln ps)) (by have hz : rdk T ln ps 0 10 := (by assumption); have := (rd_d hz.1).2.2.2; omega) hln hT (by omega) (bd_p _ (by omega) (by omega)).1 (bd_p _ (by omega) (by omega)).2 _) (cwV 2 hts gX3_readPlot_X3_readDigit rfl rfl rfl (by decide +kernel) ⟨Nat.le_of_ble_eq_true rfl, Nat.le_of_ble_eq_true rfl⟩) hK hP hD hS hAA [0, 1, 2] [] [0, 1, 2] rfl rfl rfl rfl (by decide) rfl (fun _ => rfl) 3 0 rfl rfl rfl hl.1 rfl (Nat.le_of_ble_eq_true rfl) dX3_readPlot_35 ⟨by first | exact Nat.le_of_ble_eq_true rfl | omega, by first | exact Nat.le_of_ble_eq_true rfl | omega⟩ (fun rr6 uu H locs hw5 hP hD hS => ?_)
      have hP : va_P G.1 vwCl [(x0, .inr (3, [.int (nI ln), .int (nI ((ps + 1) + bb (rdk T ln (ps + 1) 0 (pg (dgt T ln ps))))), .int (nI kd), .int (nI (dgt T ln ps)), .int se, .int (nI pa), .ref x1, .ref x2])), (x1, .inl (G.2 0, 4, .inl (nA DG))), (x2, .inl (G.2 1, 60, .inl (nA T)))] _ := hP
      have hD : va_D AA [(x0, .inr (3, [.int (nI ln), .int (nI ((ps + 1) + bb (rdk T ln (ps + 1) 0 (pg (dgt T ln ps))))), .int (nI kd), .int (nI (dgt T ln ps)), .int se, .int (nI pa), .ref x1, .ref x2])), (x1, .inl (G.2 0, 4, .inl (nA DG))), (x2, .inl (G.2 1, 60, .inl (nA T)))] := hD
      obtain ⟨hrhw5, hw5⟩ := hw5
      subst hrhw5
      by_cases h7 : rdk T ln (ps + 1) 0 (pg (dgt T ln ps))
      · skip
        refine nr_top (rdI_p h7) ?_
        rw [bb_t h7] at hP hD
        have hP : va_P G.1 vwCl [(x0, .inr (3, [.int (nI ln), .int (nI ((ps + 1) + 1)), .int (nI kd), .int (nI (dgt T ln ps)), .int se, .int (nI pa), .ref x1, .ref x2])), (x1, .inl (G.2 0, 4, .inl (nA DG))), (x2, .inl (G.2 1, 60, .inl (nA T)))] _ := hP
        have hD : va_D AA [(x0, .inr (3, [.int (nI ln), .int (nI ((ps + 1) + 1)), .int (nI kd), .int (nI (dgt T ln ps)), .int se, .int (nI pa), .ref x1, .ref x2])), (x1, .inl (G.2 0, 4, .inl (nA DG))), (x2, .inl (G.2 1, 60, .inl (nA T)))] := hD
        refine lv_istore_n (lv' := [(1, .int (nI (dgt T ln (ps + 1)))), (0, .ref x0)]) hx hb dX3_readPlot_38 rfl hl (by decide) rfl (fun ls hl => ?_)
        refine lv_iload_n hx hb dX3_readPlot_39 rfl (lv_at hl 0 rfl) ?_
        refine br_lt0 (tgt := 56) hx hb dX3_readPlot_40 (by decide) (by omega) ?_
        refine lv_aload_n hx hb dX3_readPlot_43 rfl (lv_at hl 1 rfl) ?_
        refine nr_bi (v := 10) hx hb dX3_readPlot_44 (by decide +kernel) ?_
        refine lv_aload_n hx hb dX3_readPlot_46 rfl (lv_at hl 1 rfl) ?_
        refine va_get (D := G.1) (ci := 3) (v := .int (nI (dgt T ln ps))) (C := RX3) (T := TX3) (N := 8) hx hb hts hF3 hown hK hP 0 rfl rfl 3 (by decide) (hts (.fieldLink RX3 57 "CousinShares$OrderText" "first" "I") (List.mem_of_getElem? (i := 1) rfl)) (fun _ h9 => h9) rfl dX3_readPlot_47 ?_
        refine nr_mul hx hb dX3_readPlot_50 ?_
        refine lv_iload_n hx hb dX3_readPlot_51 rfl (lv_at hl 0 rfl) ?_
        refine nr_add hx hb dX3_readPlot_52 ?_
        refine va_put (D := G.1) (ci := 3) (v := .int (nI ((10 * (dgt T ln ps)) + (dgt T ln (ps + 1))))) (ty := .int) (C := RX3) (T := TX3) (N := 8) hx hb hts hF3 tyX3 tyX3_ok nmX3 hown hK hP hD hS 0 rfl rfl 3 (by decide) (hts (.fieldLink RX3 57 "CousinShares$OrderText" "first" "I") (List.mem_of_getElem? (i := 1) rfl)) (fun _ h9 => h9) rfl (by decide +kernel) rfl rfl (Nat.le_of_ble_eq_true rfl) dX3_readPlot_53 (fun H locs hP hD hS => ?_)
        have hP : va_P G.1 vwCl [(x0, .inr (3, [.int (nI ln), .int (nI ((ps + 1) + 1)), .int (nI kd), .int (nI ((10 * (dgt T ln ps)) + (dgt T ln (ps + 1)))), .int se, .int (nI pa), .ref x1, .ref x2])), (x1, .inl (G.2 0, 4, .inl (nA DG))), (x2, .inl (G.2 1, 60, .inl (nA T)))] _ := hP
        have hD : va_D AA [(x0, .inr (3, [.int (nI ln), .int (nI ((ps + 1) + 1)), .int (nI kd), .int (nI ((10 * (dgt T ln ps)) + (dgt T ln (ps + 1)))), .int se, .int (nI pa), .ref x1, .ref x2])), (x1, .inl (G.2 0, 4, .inl (nA DG))), (x2, .inl (G.2 1, 60, .inl (nA T)))] := hD
        refine lv_aload_n hx hb dX3_readPlot_56 rfl (lv_at hl 1 rfl) ?_
        refine va_get (D := G.1) (ci := 3) (v := .int (nI ((10 * (dgt T ln ps)) + (dgt T ln (ps + 1))))) (C := RX3) (T := TX3) (N := 8) hx hb hts hF3 hown hK hP 0 rfl rfl 3 (by decide) (hts (.fieldLink RX3 57 "CousinShares$OrderText" "first" "I") (List.mem_of_getElem? (i := 1) rfl)) (fun _ h9 => h9) rfl dX3_readPlot_57 ?_
        refine br_lt0 (tgt := 67) hx hb dX3_readPlot_60 (by decide) (by omega) ?_
        have e := pE_c h3 h7
        refine nr_const (v := 1) hx hb dX3_readPlot_63 rfl ?_
        refine nr_top (y := nI (bb ((pE T ln ps).1 = true))) ((congrArg nI (bb_t (by rw [e.1]))).symm) ?_
        refine lv_goto (tgt := 68) hx hb dX3_readPlot_64 (by decide) ?_
        exact wretz hx hb hr hlk hK hS (()) (by show va_P G.1 vwCl [(x0, .inr (3, [.int (nI ln), .int (nI ((pE T ln ps).2)), .int (nI kd), .int (pF T ln ps), .int se, .int (nI pa), .ref x1, .ref x2])), (x1, .inl (G.2 0, 4, .inl (nA DG))), (x2, .inl (G.2 1, 60, .inl (nA T)))] _; rw [e.1, e.2]; exact hP) (by show va_D _ [(x0, .inr (3, [.int (nI ln), .int (nI ((pE T ln ps).2)), .int (nI kd), .int (pF T ln ps), .int se, .int (nI pa), .ref x1, .ref x2])), (x1, .inl (G.2 0, 4, .inl (nA DG))), (x2, .inl (G.2 1, 60, .inl (nA T)))]; rw [e.1, e.2]; exact hD) rfl (⟨rfl, trivial⟩) dX3_readPlot_68
      · skip
        refine nr_top (rdI_n h7) ?_
        rw [bb_f h7] at hP hD
        have hP : va_P G.1 vwCl [(x0, .inr (3, [.int (nI ln), .int (nI (ps + 1)), .int (nI kd), .int (nI (dgt T ln ps)), .int se, .int (nI pa), .ref x1, .ref x2])), (x1, .inl (G.2 0, 4, .inl (nA DG))), (x2, .inl (G.2 1, 60, .inl (nA T)))] _ := hP
        have hD : va_D AA [(x0, .inr (3, [.int (nI ln), .int (nI (ps + 1)), .int (nI kd), .int (nI (dgt T ln ps)), .int se, .int (nI pa), .ref x1, .ref x2])), (x1, .inl (G.2 0, 4, .inl (nA DG))), (x2, .inl (G.2 1, 60, .inl (nA T)))] := hD
        refine lv_istore_n (lv' := [(1, .int (-1)), (0, .ref x0)]) hx hb dX3_readPlot_38 rfl hl (by decide) rfl (fun ls hl => ?_)
        refine lv_iload_n hx hb dX3_readPlot_39 rfl (lv_at hl 0 rfl) ?_
        refine lv_if_lt (tgt := 56) hx hb dX3_readPlot_40 (by decide) (fun h8 => ?_) (fun h8 => ?_)
        · skip
          refine lv_aload_n hx hb dX3_readPlot_56 rfl (lv_at hl 1 rfl) ?_
          refine va_get (D := G.1) (ci := 3) (v := .int (nI (dgt T ln ps))) (C := RX3) (T := TX3) (N := 8) hx hb hts hF3 hown hK hP 0 rfl rfl 3 (by decide) (hts (.fieldLink RX3 57 "CousinShares$OrderText" "first" "I") (List.mem_of_getElem? (i := 1) rfl)) (fun _ h9 => h9) rfl dX3_readPlot_57 ?_
          refine br_lt0 (tgt := 67) hx hb dX3_readPlot_60 (by decide) (by omega) ?_
          have e := pE_b h3 h7
          refine nr_const (v := 1) hx hb dX3_readPlot_63 rfl ?_
          refine nr_top (y := nI (bb ((pE T ln ps).1 = true))) ((congrArg nI (bb_t (by rw [e.1]))).symm) ?_
          refine lv_goto (tgt := 68) hx hb dX3_readPlot_64 (by decide) ?_
          exact wretz hx hb hr hlk hK hS (()) (by show va_P G.1 vwCl [(x0, .inr (3, [.int (nI ln), .int (nI ((pE T ln ps).2)), .int (nI kd), .int (pF T ln ps), .int se, .int (nI pa), .ref x1, .ref x2])), (x1, .inl (G.2 0, 4, .inl (nA DG))), (x2, .inl (G.2 1, 60, .inl (nA T)))] _; rw [e.1, e.2]; exact hP) (by show va_D _ [(x0, .inr (3, [.int (nI ln), .int (nI ((pE T ln ps).2)), .int (nI kd), .int (pF T ln ps), .int se, .int (nI pa), .ref x1, .ref x2])), (x1, .inl (G.2 0, 4, .inl (nA DG))), (x2, .inl (G.2 1, 60, .inl (nA T)))]; rw [e.1, e.2]; exact hD) rfl (⟨rfl, trivial⟩) dX3_readPlot_68
        · exact absurd (by decide) h8
  · skip
    refine nr_top (rdI_n h3) ?_
    rw [bb_f h3] at hP hD
    have hP : va_P G.1 vwCl [(x0, .inr (3, [.int (nI ln), .int (nI ps), .int (nI kd), .int fi, .int se, .int (nI pa), .ref x1, .ref x2])), (x1, .inl (G.2 0, 4, .inl (nA DG))), (x2, .inl (G.2 1, 60, .inl (nA T)))] _ := hP
    have hD : va_D AA [(x0, .inr (3, [.int (nI ln), .int (nI ps), .int (nI kd), .int fi, .int se, .int (nI pa), .ref x1, .ref x2])), (x1, .inl (G.2 0, 4, .inl (nA DG))), (x2, .inl (G.2 1, 60, .inl (nA T)))] := hD
    refine va_put (D := G.1) (ci := 3) (v := .int (-1)) (ty := .int) (C := RX3) (T := TX3) (N := 8) hx hb hts hF3 tyX3 tyX3_ok nmX3 hown hK hP hD hS 0 rfl rfl 3 (by decide) (hts (.fieldLink RX3 57 "CousinShares$OrderText" "first" "I") (List.mem_of_getElem? (i := 1) rfl)) (fun _ h9 => h9) rfl (by decide +kernel) rfl rfl (Nat.le_of_ble_eq_true rfl) dX3_readPlot_8 (fun H locs hP hD hS => ?_)
    have hP : va_P G.1 vwCl [(x0, .inr (3, [.int (nI ln), .int (nI ps), .int (nI kd), .int (-1), .int se, .int (nI pa), .ref x1, .ref x2])), (x1, .inl (G.2 0, 4, .inl (nA DG))), (x2, .inl (G.2 1, 60, .inl (nA T)))] _ := hP
    have hD : va_D AA [(x0, .inr (3, [.int (nI ln), .int (nI ps), .int (nI kd), .int (-1), .int se, .int (nI pa), .ref x1, .ref x2])), (x1, .inl (G.2 0, 4, .inl (nA DG))), (x2, .inl (G.2 1, 60, .inl (nA T)))] := hD
    have hdl := dgt_le T ln ps
    have hdl2 := dgt_le T ln (ps + 1)
    refine lv_aload_n hx hb dX3_readPlot_11 rfl (lv_at hl 0 rfl) ?_
    refine va_get (D := G.1) (ci := 3) (v := .int (-1)) (C := RX3) (T := TX3) (N := 8) hx hb hts hF3 hown hK hP 0 rfl rfl 3 (by decide) (hts (.fieldLink RX3 57 "CousinShares$OrderText" "first" "I") (List.mem_of_getElem? (i := 1) rfl)) (fun _ h9 => h9) rfl dX3_readPlot_12 ?_
    refine lv_if_le (tgt := 56) hx hb dX3_readPlot_15 (by decide) (fun h9 => ?_) (fun h9 => ?_)
    · skip
      refine lv_aload_n hx hb dX3_readPlot_56 rfl (lv_at hl 0 rfl) ?_
      refine va_get (D := G.1) (ci := 3) (v := .int (-1)) (C := RX3) (T := TX3) (N := 8) hx hb hts hF3 hown hK hP 0 rfl rfl 3 (by decide) (hts (.fieldLink RX3 57 "CousinShares$OrderText" "first" "I") (List.mem_of_getElem? (i := 1) rfl)) (fun _ h9 => h9) rfl dX3_readPlot_57 ?_
      refine lv_if_lt (tgt := 67) hx hb dX3_readPlot_60 (by decide) (fun h10 => ?_) (fun h10 => ?_)
      · skip
        have e := pE_a h3
        refine nr_const (v := 0) hx hb dX3_readPlot_67 rfl ?_
        refine nr_top (y := nI (bb ((pE T ln ps).1 = true))) ((congrArg nI (bb_f (by rw [e.1]; exact Bool.false_ne_true))).symm) ?_
        exact wretz hx hb hr hlk hK hS (()) (by show va_P G.1 vwCl [(x0, .inr (3, [.int (nI ln), .int (nI ((pE T ln ps).2)), .int (nI kd), .int (pF T ln ps), .int se, .int (nI pa), .ref x1, .ref x2])), (x1, .inl (G.2 0, 4, .inl (nA DG))), (x2, .inl (G.2 1, 60, .inl (nA T)))] _; rw [e.1, e.2]; exact hP) (by show va_D _ [(x0, .inr (3, [.int (nI ln), .int (nI ((pE T ln ps).2)), .int (nI kd), .int (pF T ln ps), .int se, .int (nI pa), .ref x1, .ref x2])), (x1, .inl (G.2 0, 4, .inl (nA DG))), (x2, .inl (G.2 1, 60, .inl (nA T)))]; rw [e.1, e.2]; exact hD) rfl (⟨rfl, trivial⟩) dX3_readPlot_68
      · exact absurd (by decide) h10
    · exact absurd (by decide) h9)
