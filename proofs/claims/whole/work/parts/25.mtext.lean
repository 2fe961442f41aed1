set_option maxHeartbeats 4000000 in
set_option maxRecDepth 100000 in
theorem c_X6_sign (l : Launch) (G : gG) (z0 : Nat) (z4 : Nat) (fs : List Value) (ln : Nat) (Tx : Nat → Nat) (i : Nat) (hf5 : fs[5]? = some (.ref z4)) (hf6 : fs[6]? = some (.int (nI ln))) (hln : ln ≤ 60) (hT : ∀ j, j < ln → Tx j < 65536) (hi : i ≤ 1000) : Met l yX6_sign wsX6_sign ({ frames := 0, cells := 0, slots := 0, locals := 0 } : Room) (RD G [(z0, .inr (6, fs)), (z4, .inl (G.2 0, 60, .inl (nA Tx)))] [.ref z0, .int (nI i)]) (QcRead (sgI Tx ln i)) 0 0 noF := rdM (C := RX6) rfl (by decide) rfl (Nat.le_of_ble_eq_true rfl) (fun pX eX sX mX bX meX cX ls hx hb hr hts hown hlk hml hP hK hl => by
  have hl : lv_has ls 2 [(0, .ref z0), (1, .int (nI i))] := hl
  have hF6 : ∀ w ∈ wsX60, w ∈ wsX6_sign := fun _ h => (List.mem_cons_of_mem _ (List.mem_append_right _ h))
  refine lv_iload_n hx hb dX6_sign_0 rfl (lv_at hl 1 rfl) ?_
  refine lv_aload_n hx hb dX6_sign_1 rfl (lv_at hl 0 rfl) ?_
  refine va_get (D := G.1) (ci := 6) (v := .int (nI ln)) (C := RX6) (T := TX6) (N := 9) hx hb hts hF6 hown hK hP 0 rfl rfl 6 (by decide) (hts (.fieldLink RX6 121 "CousinSharesModel" "length" "I") (List.mem_of_getElem? (i := 1) rfl)) (fun _ h9 => h9) hf6 dX6_sign_2 ?_
  refine br_ige (tgt := 17) hx hb dX6_sign_5 (by decide) (by omega) (by omega) (fun h1 => ?_) (fun h1 => ?_)
  · skip
    refine lv_iconst (v := (-1)) hx hb dX6_sign_17 (by decide +kernel) ?_
    exact rret hx hb hr hlk (by unfold sgI; first | rw [if_pos (by omega)] | rw [if_neg (by omega)]) dX6_sign_18
  · skip
    refine lv_aload_n hx hb dX6_sign_8 rfl (lv_at hl 0 rfl) ?_
    refine va_get (D := G.1) (ci := 6) (v := .ref z4) (C := RX6) (T := TX6) (N := 9) hx hb hts hF6 hown hK hP 0 rfl rfl 5 (by decide) (hts (.fieldLink RX6 19 "CousinSharesModel" "text" "[I") (List.mem_of_getElem? (i := 2) rfl)) (fun _ h9 => h9) hf5 dX6_sign_9 ?_
    refine lv_iload_n hx hb dX6_sign_12 rfl (lv_at hl 1 rfl) ?_
    refine nr_ald hx hb hK hP 1 rfl (by omega) (by decide) dX6_sign_13 ?_
    refine lv_goto (tgt := 18) hx hb dX6_sign_14 (by decide) ?_
    exact rret hx hb hr hlk (by unfold sgI; first | rw [if_pos (by omega)] | rw [if_neg (by omega)]) dX6_sign_18)

set_option maxHeartbeats 4000000 in
set_option maxRecDepth 100000 in
theorem c_X6_digit (l : Launch) (G : gG) (z0 : Nat) (z4 : Nat) (fs : List Value) (ln : Nat) (Tx : Nat → Nat) (i : Nat) (hf5 : fs[5]? = some (.ref z4)) (hf6 : fs[6]? = some (.int (nI ln))) (hln : ln ≤ 60) (hT : ∀ j, j < ln → Tx j < 65536) (hi : i ≤ 1000) : Met l yX6_digit wsX6_digit ({ frames := 1, cells := 0, slots := 0, locals := 22 } : Room) (RD G [(z0, .inr (6, fs)), (z4, .inl (G.2 0, 60, .inl (nA Tx)))] [.ref z0, .int (nI i)]) (QcRead (dgI (dgt Tx ln i))) 0 0 noF := rdM (C := RX6) rfl (by decide) rfl (Nat.le_of_ble_eq_true rfl) (fun pX eX sX mX bX meX cX ls hx hb hr hts hown hlk hml hP hK hl => by
  have hl : lv_has ls 2 [(0, .ref z0), (1, .int (nI i))] := hl
  refine lv_aload_n hx hb dX6_digit_0 rfl (lv_at hl 0 rfl) ?_
  refine lv_iload_n hx hb dX6_digit_1 rfl (lv_at hl 1 rfl) ?_
  refine rcV (As := [.int (nI i)]) (wl := [(z0, .inr (6, fs)), (z4, .inl (G.2 0, 60, .inl (nA Tx)))]) ⟨hx, hb, hml, hown, hts⟩ (c_X6_sign l G z0 z4 fs ln Tx i hf5 hf6 (by omega) hT (by omega)) (cwV 1 hts gX6_digit_X6_sign rfl rfl rfl (by decide +kernel) ⟨Nat.le_of_ble_eq_true rfl, Nat.le_of_ble_eq_true rfl⟩) hK hP 6 0 rfl rfl rfl hl.1 rfl (Nat.le_of_ble_eq_true rfl) dX6_digit_2 ⟨Nat.zero_le _, Nat.zero_le _⟩ ?_
  refine nr_bi (v := 48) hx hb dX6_digit_5 (by decide +kernel) ?_
  refine nr_bi (v := 57) hx hb dX6_digit_7 (by decide +kernel) ?_
  refine rcS (As := [.int (sgI Tx ln i), .int (nI 48), .int (nI 57)]) ⟨hx, hb, hml, hown, hts⟩ (c_X6_in l (sgI Tx ln i) (nI 48) (nI 57)) (va_cwS 3 hts gX6_digit_X6_in rfl rfl rfl (by decide +kernel) ⟨Nat.le_of_ble_eq_true rfl, Nat.le_of_ble_eq_true rfl⟩) rfl hl.1 rfl (Nat.le_of_ble_eq_true rfl) dX6_digit_9 ⟨Nat.zero_le _, Nat.zero_le _⟩ ?_
  refine br_eqb (tgt := 26) hx hb dX6_digit_12 (by decide) (fun h1 => ?_) (fun h1 => ?_)
  · skip
    refine lv_iconst (v := (-1)) hx hb dX6_digit_26 (by decide +kernel) ?_
    exact rret hx hb hr hlk (by first | exact dg_a hT (by assumption) | exact dg_b hT (by assumption)) dX6_digit_27
  · skip
    refine lv_aload_n hx hb dX6_digit_15 rfl (lv_at hl 0 rfl) ?_
    refine lv_iload_n hx hb dX6_digit_16 rfl (lv_at hl 1 rfl) ?_
    refine rcV (As := [.int (nI i)]) (wl := [(z0, .inr (6, fs)), (z4, .inl (G.2 0, 60, .inl (nA Tx)))]) ⟨hx, hb, hml, hown, hts⟩ (c_X6_sign l G z0 z4 fs ln Tx i hf5 hf6 (by omega) hT (by omega)) (cwV 1 hts gX6_digit_X6_sign rfl rfl rfl (by decide +kernel) ⟨Nat.le_of_ble_eq_true rfl, Nat.le_of_ble_eq_true rfl⟩) hK hP 6 0 rfl rfl rfl hl.1 rfl (Nat.le_of_ble_eq_true rfl) dX6_digit_17 ⟨Nat.zero_le _, Nat.zero_le _⟩ ?_
    refine nr_bi (v := 48) hx hb dX6_digit_20 (by decide +kernel) ?_
    refine lv_isub hx hb dX6_digit_22 ?_
    refine lv_goto (tgt := 27) hx hb dX6_digit_23 (by decide) ?_
    exact rret hx hb hr hlk (by first | exact dg_a hT (by assumption) | exact dg_b hT (by assumption)) dX6_digit_27)

set_option maxHeartbeats 4000000 in
set_option maxRecDepth 100000 in
theorem c_X6_digitsEnd (l : Launch) (G : gG) (z0 : Nat) (z4 : Nat) (fs : List Value) (ln : Nat) (Tx : Nat → Nat) (i : Nat) (mm : Nat) (hf5 : fs[5]? = some (.ref z4)) (hf6 : fs[6]? = some (.int (nI ln))) (hln : ln ≤ 60) (hT : ∀ j, j < ln → Tx j < 65536) (hi : i ≤ 900) (hm : mm ≤ 4) : Met l yX6_digitsEnd wsX6_digitsEnd ({ frames := 2, cells := 0, slots := 0, locals := 43 } : Room) (RD G [(z0, .inr (6, fs)), (z4, .inl (G.2 0, 60, .inl (nA Tx)))] [.ref z0, .int (nI i), .int (nI mm)]) (QcRead (er (dE Tx ln i mm))) 0 0 noF := rdM (C := RX6) rfl (by decide) rfl (Nat.le_of_ble_eq_true rfl) (fun pX eX sX mX bX meX cX ls hx hb hr hts hown hlk hml hP hK hl => by
  have hl : lv_has ls 4 [(0, .ref z0), (1, .int (nI i)), (2, .int (nI mm))] := hl
  refine lv_aload_n hx hb dX6_digitsEnd_0 rfl (lv_at hl 0 rfl) ?_
  refine lv_iload_n hx hb dX6_digitsEnd_1 rfl (lv_at hl 1 rfl) ?_
  refine rcV (As := [.int (nI i)]) (wl := [(z0, .inr (6, fs)), (z4, .inl (G.2 0, 60, .inl (nA Tx)))]) ⟨hx, hb, hml, hown, hts⟩ (c_X6_sign l G z0 z4 fs ln Tx i hf5 hf6 (by omega) hT (by omega)) (cwV 1 hts gX6_digitsEnd_X6_sign rfl rfl rfl (by decide +kernel) ⟨Nat.le_of_ble_eq_true rfl, Nat.le_of_ble_eq_true rfl⟩) hK hP 6 0 rfl rfl rfl hl.1 rfl (Nat.le_of_ble_eq_true rfl) dX6_digitsEnd_2 ⟨Nat.zero_le _, Nat.zero_le _⟩ ?_
  refine nr_bi (v := 61) hx hb dX6_digitsEnd_5 (by decide +kernel) ?_
  refine lv_icmp_eq (tgt := 14) hx hb dX6_digitsEnd_7 (by decide) (fun h1 => ?_) (fun h1 => ?_)
  · skip
    refine nr_const (v := 1) hx hb dX6_digitsEnd_14 rfl ?_
    refine lv_istore_n (lv' := [(3, .int (nI 1)), (0, .ref z0), (1, .int (nI i)), (2, .int (nI mm))]) hx hb dX6_digitsEnd_15 rfl hl (by decide) rfl (fun ls hl => ?_)
    refine loop_r (T := Nat) (nL := 4) (fun q => q ≤ mm ∧ dc Tx ln mm (i + 1) = q + dc Tx ln (mm - q) (i + 1 + q)) (fun q => mm - q) (fun q => [(0, .ref z0), (1, .int (nI i)), (2, .int (nI mm)), (3, .int (nI (q + 1)))]) ?_ 0 (lv_sub hl [1, 2, 3, 0] rfl) ⟨Nat.zero_le _, (Nat.zero_add _).symm⟩
    intro q ls hl hi3 ih2
    obtain ⟨hi_0, hi_1⟩ := hi3
    have hi_0 : q ≤ mm := hi_0
    have hi_1 : dc Tx ln mm (i + 1) = q + dc Tx ln (mm - q) (i + 1 + q) := hi_1
    have hl : lv_has ls 4 [(0, .ref z0), (1, .int (nI i)), (2, .int (nI mm)), (3, .int (nI (q + 1)))] := hl
    refine lv_iload_n hx hb dX6_digitsEnd_16 rfl (lv_at hl 3 rfl) ?_
    refine lv_iload_n hx hb dX6_digitsEnd_17 rfl (lv_at hl 2 rfl) ?_
    refine br_igt (tgt := 43) hx hb dX6_digitsEnd_18 (by decide) (by omega) (by omega) (fun h4 => ?_) (fun h4 => ?_)
    · skip
      refine lv_iload_n hx hb dX6_digitsEnd_43 rfl (lv_at hl 1 rfl) ?_
      refine lv_iload_n hx hb dX6_digitsEnd_44 rfl (lv_at hl 2 rfl) ?_
      refine nr_add hx hb dX6_digitsEnd_45 ?_
      refine nr_const (v := 1) hx hb dX6_digitsEnd_46 rfl ?_
      refine nr_add hx hb dX6_digitsEnd_47 ?_
      exact rret hx hb hr hlk (by have e : q = mm := (by omega); subst e; rw [Nat.sub_self] at hi_1; unfold dE; rw [if_pos ((sgI_e hT (by decide)).mp (by assumption)), if_pos (by rw [hi_1]; rfl)]; rfl) dX6_digitsEnd_48
    · skip
      refine lv_aload_n hx hb dX6_digitsEnd_21 rfl (lv_at hl 0 rfl) ?_
      refine lv_iload_n hx hb dX6_digitsEnd_22 rfl (lv_at hl 1 rfl) ?_
      refine lv_iload_n hx hb dX6_digitsEnd_23 rfl (lv_at hl 3 rfl) ?_
      refine nr_add hx hb dX6_digitsEnd_24 ?_
      refine rcV (As := [.int (nI (i + (q + 1)))]) (wl := [(z0, .inr (6, fs)), (z4, .inl (G.2 0, 60, .inl (nA Tx)))]) ⟨hx, hb, hml, hown, hts⟩ (c_X6_digit l G z0 z4 fs ln Tx (i + (q + 1)) hf5 hf6 (by omega) hT (by omega)) (cwV 1 hts gX6_digitsEnd_X6_digit rfl rfl rfl (by decide +kernel) ⟨Nat.le_of_ble_eq_true rfl, Nat.le_of_ble_eq_true rfl⟩) hK hP 6 0 rfl rfl rfl hl.1 rfl (Nat.le_of_ble_eq_true rfl) dX6_digitsEnd_25 ⟨Nat.zero_le _, Nat.zero_le _⟩ ?_
      refine lv_if_ge (tgt := 37) hx hb dX6_digitsEnd_28 (by decide) (fun h5 => ?_) (fun h5 => ?_)
      · skip
        have hdq : ¬ dgt Tx ln (i + 1 + q) = 10 := by rw [show i + 1 + q = i + (q + 1) by omega]; exact (dgI_nn (dgt_le _ _ _)).mp (by assumption)
        refine nr_inc (d := 1) (v := (q + 1) + 1) (lv' := [(3, .int (nI ((q + 1) + 1))), (0, .ref z0), (1, .int (nI i)), (2, .int (nI mm))]) hx hb dX6_digitsEnd_37 hl (k := 3) rfl rfl (by decide) rfl (fun ls hl => ?_)
        refine lv_goto (tgt := 16) hx hb dX6_digitsEnd_40 (by decide) ?_
        exact ih2 (q + 1) ls (lv_sub hl [1, 2, 3, 0] rfl) ⟨by omega, by rw [hi_1, dc_s hdq (by omega), show mm - q - 1 = mm - (q + 1) by omega]; show _ = q + 1 + dc Tx ln (mm - (q + 1)) (i + 1 + q + 1); omega⟩ (by omega)
      · skip
        refine lv_iconst (v := (-1)) hx hb dX6_digitsEnd_31 (by decide +kernel) ?_
        refine lv_iload_n hx hb dX6_digitsEnd_32 rfl (lv_at hl 1 rfl) ?_
        refine lv_isub hx hb dX6_digitsEnd_33 ?_
        refine lv_iload_n hx hb dX6_digitsEnd_34 rfl (lv_at hl 3 rfl) ?_
        refine lv_isub hx hb dX6_digitsEnd_35 ?_
        exact rret hx hb hr hlk (by have hz : dgt Tx ln (i + 1 + q) = 10 := (by rcases Nat.decEq (dgt Tx ln (i + 1 + q)) 10 with w | w; exact absurd ((dgI_nn (dgt_le _ _ _)).mpr w) (by rw [show i + 1 + q = i + (q + 1) by omega]; assumption); exact w); rw [dc_0 hz] at hi_1; unfold dE; rw [if_pos ((sgI_e hT (by decide)).mp (by assumption)), if_neg (by omega), hi_1, er_f1]; congr 2; omega) dX6_digitsEnd_36
  · skip
    refine lv_iconst (v := (-1)) hx hb dX6_digitsEnd_10 (by decide +kernel) ?_
    refine lv_iload_n hx hb dX6_digitsEnd_11 rfl (lv_at hl 1 rfl) ?_
    refine lv_isub hx hb dX6_digitsEnd_12 ?_
    exact rret hx hb hr hlk (by unfold dE; rw [if_neg (fun q => absurd ((sgI_e hT (by decide)).mpr q) (by assumption))]; rfl) dX6_digitsEnd_13)

set_option maxHeartbeats 4000000 in
set_option maxRecDepth 100000 in
theorem c_X6_plotEnd (l : Launch) (G : gG) (z0 : Nat) (z4 : Nat) (fs : List Value) (ln : Nat) (Tx : Nat → Nat) (i : Nat) (hf5 : fs[5]? = some (.ref z4)) (hf6 : fs[6]? = some (.int (nI ln))) (hln : ln ≤ 60) (hT : ∀ j, j < ln → Tx j < 65536) (hi : i ≤ 900) : Met l yX6_plotEnd wsX6_plotEnd ({ frames := 2, cells := 0, slots := 0, locals := 43 } : Room) (RD G [(z0, .inr (6, fs)), (z4, .inl (G.2 0, 60, .inl (nA Tx)))] [.ref z0, .int (nI i)]) (QcRead (er (pE Tx ln i))) 0 0 noF := rdM (C := RX6) rfl (by decide) rfl (Nat.le_of_ble_eq_true rfl) (fun pX eX sX mX bX meX cX ls hx hb hr hts hown hlk hml hP hK hl => by
  have hl : lv_has ls 4 [(0, .ref z0), (1, .int (nI i))] := hl
  refine lv_aload_n hx hb dX6_plotEnd_0 rfl (lv_at hl 0 rfl) ?_
  refine lv_iload_n hx hb dX6_plotEnd_1 rfl (lv_at hl 1 rfl) ?_
  refine rcV (As := [.int (nI i)]) (wl := [(z0, .inr (6, fs)), (z4, .inl (G.2 0, 60, .inl (nA Tx)))]) ⟨hx, hb, hml, hown, hts⟩ (c_X6_digit l G z0 z4 fs ln Tx i hf5 hf6 (by omega) hT (by omega)) (cwV 1 hts gX6_plotEnd_X6_digit rfl rfl rfl (by decide +kernel) ⟨Nat.le_of_ble_eq_true rfl, Nat.le_of_ble_eq_true rfl⟩) hK hP 6 0 rfl rfl rfl hl.1 rfl (Nat.le_of_ble_eq_true rfl) dX6_plotEnd_2 ⟨Nat.zero_le _, Nat.zero_le _⟩ ?_
  refine lv_istore_n (lv' := [(2, .int (dgI (dgt Tx ln i))), (0, .ref z0), (1, .int (nI i))]) hx hb dX6_plotEnd_5 rfl hl (by decide) rfl (fun ls hl => ?_)
  refine lv_iload_n hx hb dX6_plotEnd_6 rfl (lv_at hl 0 rfl) ?_
  refine lv_if_ge (tgt := 14) hx hb dX6_plotEnd_7 (by decide) (fun h1 => ?_) (fun h1 => ?_)
  · skip
    have hd := (dgI_nn (dgt_le Tx ln i)).mp (by assumption)
    have hd1 := dgt_le Tx ln i
    have hd2 := dgt_le Tx ln (i + 1)
    refine lv_iload_n hx hb dX6_plotEnd_14 rfl (lv_at hl 0 rfl) ?_
    refine nr_top (y := nI (dgt Tx ln i)) (dgI_p hd) ?_
    refine nr_const (v := 1) hx hb dX6_plotEnd_15 rfl ?_
    refine join_v (T := Nat) (J := 54) (nL := 4) (fun v => [(2, .int (dgI (dgt Tx ln i))), (0, .ref z0), (1, .int (nI i))]) (fun v => [.int (nI v)]) (fun v => v = bb ((((dgt Tx ln i) = 1) ∧ ((0 ≤ (dgI (dgt Tx ln (i + 1)))) ∨ (((dgt Tx ln i) = 2) ∧ (¬ ((dgI (dgt Tx ln (i + 1))) < (nI 0)) ∧ ¬ ((nI 3) < (dgI (dgt Tx ln (i + 1)))))))) ∨ (¬ ((dgt Tx ln i) = 1) ∧ (((dgt Tx ln i) = 2) ∧ (¬ ((dgI (dgt Tx ln (i + 1))) < (nI 0)) ∧ ¬ ((nI 3) < (dgI (dgt Tx ln (i + 1))))))))) ?_ (fun jj2 => ?_)
    · intro v ls hl hv3
      subst hv3
      refine lv_istore_n (lv' := [(3, .int (nI (bb ((((dgt Tx ln i) = 1) ∧ ((0 ≤ (dgI (dgt Tx ln (i + 1)))) ∨ (((dgt Tx ln i) = 2) ∧ (¬ ((dgI (dgt Tx ln (i + 1))) < (nI 0)) ∧ ¬ ((nI 3) < (dgI (dgt Tx ln (i + 1)))))))) ∨ (¬ ((dgt Tx ln i) = 1) ∧ (((dgt Tx ln i) = 2) ∧ (¬ ((dgI (dgt Tx ln (i + 1))) < (nI 0)) ∧ ¬ ((nI 3) < (dgI (dgt Tx ln (i + 1))))))))))), (2, .int (dgI (dgt Tx ln i))), (0, .ref z0), (1, .int (nI i))]) hx hb dX6_plotEnd_54 rfl hl (by decide) rfl (fun ls hl => ?_)
      refine lv_iload_n hx hb dX6_plotEnd_55 rfl (lv_at hl 0 rfl) ?_
      refine join_v (T := Nat) (J := 68) (nL := 4) (fun v => [(3, .int (nI (bb ((((dgt Tx ln i) = 1) ∧ ((0 ≤ (dgI (dgt Tx ln (i + 1)))) ∨ (((dgt Tx ln i) = 2) ∧ (¬ ((dgI (dgt Tx ln (i + 1))) < (nI 0)) ∧ ¬ ((nI 3) < (dgI (dgt Tx ln (i + 1)))))))) ∨ (¬ ((dgt Tx ln i) = 1) ∧ (((dgt Tx ln i) = 2) ∧ (¬ ((dgI (dgt Tx ln (i + 1))) < (nI 0)) ∧ ¬ ((nI 3) < (dgI (dgt Tx ln (i + 1))))))))))), (2, .int (dgI (dgt Tx ln i))), (0, .ref z0), (1, .int (nI i))]) (fun v => [.int (nI v)]) (fun v => v = (if (((dgt Tx ln i) = 1) ∧ ((0 ≤ (dgI (dgt Tx ln (i + 1)))) ∨ (((dgt Tx ln i) = 2) ∧ (¬ ((dgI (dgt Tx ln (i + 1))) < (nI 0)) ∧ ¬ ((nI 3) < (dgI (dgt Tx ln (i + 1)))))))) ∨ (¬ ((dgt Tx ln i) = 1) ∧ (((dgt Tx ln i) = 2) ∧ (¬ ((dgI (dgt Tx ln (i + 1))) < (nI 0)) ∧ ¬ ((nI 3) < (dgI (dgt Tx ln (i + 1))))))) then (i + 2) else (i + 1))) ?_ (fun jj4 => ?_)
      · intro v ls hl hv5
        subst hv5
        exact rret hx hb hr hlk (by have e2 := dgI_nn hd2; have e3 := rg_dg (n := 3) hd2 (by decide); unfold rg at e3; unfold pE; rw [if_neg hd]; simp only [e2, e3]; (repeat' split) <;> first | rfl | (exfalso; omega)) dX6_plotEnd_68
      · skip
        refine br_eqb (tgt := 65) hx hb dX6_plotEnd_56 (by decide) (fun h6 => ?_) (fun h6 => ?_)
        · skip
          refine lv_iload_n hx hb dX6_plotEnd_65 rfl (lv_at hl 3 rfl) ?_
          refine nr_const (v := 1) hx hb dX6_plotEnd_66 rfl ?_
          refine nr_add hx hb dX6_plotEnd_67 ?_
          exact jj4 (i + 1) ls (lv_sub hl [0, 1, 2, 3] rfl) (by simp only [if_neg h6])
        · skip
          refine lv_iload_n hx hb dX6_plotEnd_59 rfl (lv_at hl 3 rfl) ?_
          refine nr_const (v := 2) hx hb dX6_plotEnd_60 rfl ?_
          refine nr_add hx hb dX6_plotEnd_61 ?_
          refine lv_goto (tgt := 68) hx hb dX6_plotEnd_62 (by decide) ?_
          exact jj4 (i + 2) ls (lv_sub hl [0, 1, 2, 3] rfl) (by simp only [if_pos h6])
    · skip
      refine br_ine (tgt := 29) hx hb dX6_plotEnd_16 (by decide) (by omega) (by decide) (fun h7 => ?_) (fun h7 => ?_)
      · skip
        refine lv_iload_n hx hb dX6_plotEnd_29 rfl (lv_at hl 0 rfl) ?_
        refine nr_top (y := nI (dgt Tx ln i)) (dgI_p hd) ?_
        refine nr_const (v := 2) hx hb dX6_plotEnd_30 rfl ?_
        refine br_ine (tgt := 53) hx hb dX6_plotEnd_31 (by decide) (by omega) (by decide) (fun h8 => ?_) (fun h8 => ?_)
        · skip
          refine nr_const (v := 0) hx hb dX6_plotEnd_53 rfl ?_
          exact jj2 0 ls (lv_sub hl [0, 1, 2] rfl) (bb_f (fun q => q.elim (fun z => h7 z.1) (fun z => (fun q => h8 q.1) z.2))).symm
        · skip
          refine lv_aload_n hx hb dX6_plotEnd_34 rfl (lv_at hl 1 rfl) ?_
          refine lv_iload_n hx hb dX6_plotEnd_35 rfl (lv_at hl 2 rfl) ?_
          refine nr_const (v := 1) hx hb dX6_plotEnd_36 rfl ?_
          refine nr_add hx hb dX6_plotEnd_37 ?_
          refine rcV (As := [.int (nI (i + 1))]) (wl := [(z0, .inr (6, fs)), (z4, .inl (G.2 0, 60, .inl (nA Tx)))]) ⟨hx, hb, hml, hown, hts⟩ (c_X6_digit l G z0 z4 fs ln Tx (i + 1) hf5 hf6 (by omega) hT (by omega)) (cwV 1 hts gX6_plotEnd_X6_digit rfl rfl rfl (by decide +kernel) ⟨Nat.le_of_ble_eq_true rfl, Nat.le_of_ble_eq_true rfl⟩) hK hP 6 0 rfl rfl rfl hl.1 rfl (Nat.le_of_ble_eq_true rfl) dX6_plotEnd_38 ⟨Nat.zero_le _, Nat.zero_le _⟩ ?_
          refine nr_const (v := 0) hx hb dX6_plotEnd_41 rfl ?_
          refine nr_const (v := 3) hx hb dX6_plotEnd_42 rfl ?_
          refine rcS (As := [.int (dgI (dgt Tx ln (i + 1))), .int (nI 0), .int (nI 3)]) ⟨hx, hb, hml, hown, hts⟩ (c_X6_in l (dgI (dgt Tx ln (i + 1))) (nI 0) (nI 3)) (va_cwS 3 hts gX6_plotEnd_X6_in rfl rfl rfl (by decide +kernel) ⟨Nat.le_of_ble_eq_true rfl, Nat.le_of_ble_eq_true rfl⟩) rfl hl.1 rfl (Nat.le_of_ble_eq_true rfl) dX6_plotEnd_43 ⟨Nat.zero_le _, Nat.zero_le _⟩ ?_
          refine br_eqb (tgt := 53) hx hb dX6_plotEnd_46 (by decide) (fun h9 => ?_) (fun h9 => ?_)
          · skip
            refine nr_const (v := 0) hx hb dX6_plotEnd_53 rfl ?_
            exact jj2 0 ls (lv_sub hl [0, 1, 2] rfl) (bb_f (fun q => q.elim (fun z => h7 z.1) (fun z => (fun q => h9 q.2) z.2))).symm
          · skip
            refine nr_const (v := 1) hx hb dX6_plotEnd_49 rfl ?_
            refine lv_goto (tgt := 54) hx hb dX6_plotEnd_50 (by decide) ?_
            exact jj2 1 ls (lv_sub hl [0, 1, 2] rfl) (bb_t (Or.inr ⟨h7, ⟨h8, h9⟩⟩)).symm
      · skip
        refine lv_aload_n hx hb dX6_plotEnd_19 rfl (lv_at hl 1 rfl) ?_
        refine lv_iload_n hx hb dX6_plotEnd_20 rfl (lv_at hl 2 rfl) ?_
        refine nr_const (v := 1) hx hb dX6_plotEnd_21 rfl ?_
        refine nr_add hx hb dX6_plotEnd_22 ?_
        refine rcV (As := [.int (nI (i + 1))]) (wl := [(z0, .inr (6, fs)), (z4, .inl (G.2 0, 60, .inl (nA Tx)))]) ⟨hx, hb, hml, hown, hts⟩ (c_X6_digit l G z0 z4 fs ln Tx (i + 1) hf5 hf6 (by omega) hT (by omega)) (cwV 1 hts gX6_plotEnd_X6_digit rfl rfl rfl (by decide +kernel) ⟨Nat.le_of_ble_eq_true rfl, Nat.le_of_ble_eq_true rfl⟩) hK hP 6 0 rfl rfl rfl hl.1 rfl (Nat.le_of_ble_eq_true rfl) dX6_plotEnd_23 ⟨Nat.zero_le _, Nat.zero_le _⟩ ?_
        refine lv_if_ge (tgt := 49) hx hb dX6_plotEnd_26 (by decide) (fun h10 => ?_) (fun h10 => ?_)
        · skip
          refine nr_const (v := 1) hx hb dX6_plotEnd_49 rfl ?_
          refine lv_goto (tgt := 54) hx hb dX6_plotEnd_50 (by decide) ?_
          exact jj2 1 ls (lv_sub hl [0, 1, 2] rfl) (bb_t (Or.inl ⟨h7, (Or.inl h10)⟩)).symm
        · skip
          refine lv_iload_n hx hb dX6_plotEnd_29 rfl (lv_at hl 0 rfl) ?_
          refine nr_top (y := nI (dgt Tx ln i)) (dgI_p hd) ?_
          refine nr_const (v := 2) hx hb dX6_plotEnd_30 rfl ?_
          refine br_ine (tgt := 53) hx hb dX6_plotEnd_31 (by decide) (by omega) (by decide) (fun h11 => ?_) (fun h11 => ?_)
          · skip
            refine nr_const (v := 0) hx hb dX6_plotEnd_53 rfl ?_
            exact jj2 0 ls (lv_sub hl [0, 1, 2] rfl) (bb_f (fun q => q.elim (fun z => (fun q => q.elim h10 (fun q => h11 q.1)) z.2) (fun z => z.1 h7))).symm
          · skip
            refine lv_aload_n hx hb dX6_plotEnd_34 rfl (lv_at hl 1 rfl) ?_
            refine lv_iload_n hx hb dX6_plotEnd_35 rfl (lv_at hl 2 rfl) ?_
            refine nr_const (v := 1) hx hb dX6_plotEnd_36 rfl ?_
            refine nr_add hx hb dX6_plotEnd_37 ?_
            refine rcV (As := [.int (nI (i + 1))]) (wl := [(z0, .inr (6, fs)), (z4, .inl (G.2 0, 60, .inl (nA Tx)))]) ⟨hx, hb, hml, hown, hts⟩ (c_X6_digit l G z0 z4 fs ln Tx (i + 1) hf5 hf6 (by omega) hT (by omega)) (cwV 1 hts gX6_plotEnd_X6_digit rfl rfl rfl (by decide +kernel) ⟨Nat.le_of_ble_eq_true rfl, Nat.le_of_ble_eq_true rfl⟩) hK hP 6 0 rfl rfl rfl hl.1 rfl (Nat.le_of_ble_eq_true rfl) dX6_plotEnd_38 ⟨Nat.zero_le _, Nat.zero_le _⟩ ?_
            refine nr_const (v := 0) hx hb dX6_plotEnd_41 rfl ?_
            refine nr_const (v := 3) hx hb dX6_plotEnd_42 rfl ?_
            refine rcS (As := [.int (dgI (dgt Tx ln (i + 1))), .int (nI 0), .int (nI 3)]) ⟨hx, hb, hml, hown, hts⟩ (c_X6_in l (dgI (dgt Tx ln (i + 1))) (nI 0) (nI 3)) (va_cwS 3 hts gX6_plotEnd_X6_in rfl rfl rfl (by decide +kernel) ⟨Nat.le_of_ble_eq_true rfl, Nat.le_of_ble_eq_true rfl⟩) rfl hl.1 rfl (Nat.le_of_ble_eq_true rfl) dX6_plotEnd_43 ⟨Nat.zero_le _, Nat.zero_le _⟩ ?_
            refine br_eqb (tgt := 53) hx hb dX6_plotEnd_46 (by decide) (fun h12 => ?_) (fun h12 => ?_)
            · skip
              refine nr_const (v := 0) hx hb dX6_plotEnd_53 rfl ?_
              exact jj2 0 ls (lv_sub hl [0, 1, 2] rfl) (bb_f (fun q => q.elim (fun z => (fun q => q.elim h10 (fun q => h12 q.2)) z.2) (fun z => z.1 h7))).symm
            · skip
              refine nr_const (v := 1) hx hb dX6_plotEnd_49 rfl ?_
              refine lv_goto (tgt := 54) hx hb dX6_plotEnd_50 (by decide) ?_
              exact jj2 1 ls (lv_sub hl [0, 1, 2] rfl) (bb_t (Or.inl ⟨h7, (Or.inr ⟨h11, h12⟩)⟩)).symm
  · skip
    refine lv_iconst (v := (-1)) hx hb dX6_plotEnd_10 (by decide +kernel) ?_
    refine lv_iload_n hx hb dX6_plotEnd_11 rfl (lv_at hl 2 rfl) ?_
    refine lv_isub hx hb dX6_plotEnd_12 ?_
    exact rret hx hb hr hlk (by unfold pE; rw [if_pos (by rcases Nat.decEq (dgt Tx ln i) 10 with w | w; exact absurd ((dgI_nn (dgt_le _ _ _)).mpr w) (by assumption); exact w)]; rfl) dX6_plotEnd_13)

set_option maxHeartbeats 4000000 in
set_option maxRecDepth 100000 in
theorem c_X6_cousinsEnd (l : Launch) (G : gG) (z0 : Nat) (z4 : Nat) (fs : List Value) (ln : Nat) (Tx : Nat → Nat) (i : Nat) (hf5 : fs[5]? = some (.ref z4)) (hf6 : fs[6]? = some (.int (nI ln))) (hln : ln ≤ 60) (hT : ∀ j, j < ln → Tx j < 65536) (hi : i ≤ 900) : Met l yX6_cousinsEnd wsX6_cousinsEnd ({ frames := 2, cells := 0, slots := 0, locals := 43 } : Room) (RD G [(z0, .inr (6, fs)), (z4, .inl (G.2 0, 60, .inl (nA Tx)))] [.ref z0, .int (nI i)]) (QcRead (er (cE Tx ln i))) 0 0 noF := rdM (C := RX6) rfl (by decide) rfl (Nat.le_of_ble_eq_true rfl) (fun pX eX sX mX bX meX cX ls hx hb hr hts hown hlk hml hP hK hl => by
  have hl : lv_has ls 4 [(0, .ref z0), (1, .int (nI i))] := hl
  refine lv_iconst (v := (-1)) hx hb dX6_cousinsEnd_0 (by decide +kernel) ?_
  refine lv_istore_n (lv' := [(2, .int (-1)), (0, .ref z0), (1, .int (nI i))]) hx hb dX6_cousinsEnd_1 rfl hl (by decide) rfl (fun ls hl => ?_)
  refine lv_iload_n hx hb dX6_cousinsEnd_2 rfl (lv_at hl 2 rfl) ?_
  refine lv_istore_n (lv' := [(3, .int (nI i)), (2, .int (-1)), (0, .ref z0), (1, .int (nI i))]) hx hb dX6_cousinsEnd_3 rfl hl (by decide) rfl (fun ls hl => ?_)
  refine loop_r (T := Nat × Nat) (nL := 4) (fun x => x.1 ≤ x.2 ∧ x.2 ≤ 7 ∧ cc Tx ln 7 i 0 = x.1 + cc Tx ln (7 - x.1) (i + x.1) x.2) (fun x => 7 - x.2) (fun x => [(0, .ref z0), (1, .int (nI i)), (2, .int (lsI x.2)), (3, .int (nI (i + x.1)))]) ?_ (0, 0) (lv_sub hl [2, 3, 1, 0] rfl) ⟨Nat.le_refl _, by decide, (Nat.zero_add _).symm⟩
  intro x ls hl hi2 ih1
  obtain ⟨hi_0, hi_1, hi_2⟩ := hi2
  have hi_0 : x.1 ≤ x.2 := hi_0
  have hi_1 : x.2 ≤ 7 := hi_1
  have hi_2 : cc Tx ln 7 i 0 = x.1 + cc Tx ln (7 - x.1) (i + x.1) x.2 := hi_2
  have hl : lv_has ls 4 [(0, .ref z0), (1, .int (nI i)), (2, .int (lsI x.2)), (3, .int (nI (i + x.1)))] := hl
  have hdl := dgt_le Tx ln (i + x.1)
  refine lv_aload_n hx hb dX6_cousinsEnd_4 rfl (lv_at hl 0 rfl) ?_
  refine lv_iload_n hx hb dX6_cousinsEnd_5 rfl (lv_at hl 3 rfl) ?_
  refine rcV (As := [.int (nI (i + x.1))]) (wl := [(z0, .inr (6, fs)), (z4, .inl (G.2 0, 60, .inl (nA Tx)))]) ⟨hx, hb, hml, hown, hts⟩ (c_X6_digit l G z0 z4 fs ln Tx (i + x.1) hf5 hf6 (by omega) hT (by omega)) (cwV 1 hts gX6_cousinsEnd_X6_digit rfl rfl rfl (by decide +kernel) ⟨Nat.le_of_ble_eq_true rfl, Nat.le_of_ble_eq_true rfl⟩) hK hP 6 0 rfl rfl rfl hl.1 rfl (Nat.le_of_ble_eq_true rfl) dX6_cousinsEnd_6 ⟨Nat.zero_le _, Nat.zero_le _⟩ ?_
  refine rcS (As := [.int (dgI (dgt Tx ln (i + x.1)))]) ⟨hx, hb, hml, hown, hts⟩ (c_X6_isCousin l (dgI (dgt Tx ln (i + x.1)))) (va_cwS 1 hts gX6_cousinsEnd_X6_isCousin rfl rfl rfl (by decide +kernel) ⟨Nat.le_of_ble_eq_true rfl, Nat.le_of_ble_eq_true rfl⟩) rfl hl.1 rfl (Nat.le_of_ble_eq_true rfl) dX6_cousinsEnd_9 ⟨Nat.zero_le _, Nat.zero_le _⟩ ?_
  refine br_eqb (tgt := 36) hx hb dX6_cousinsEnd_12 (by decide) (fun h3 => ?_) (fun h3 => ?_)
  · skip
    refine lv_iload_n hx hb dX6_cousinsEnd_36 rfl (lv_at hl 3 rfl) ?_
    refine lv_iload_n hx hb dX6_cousinsEnd_37 rfl (lv_at hl 1 rfl) ?_
    refine br_ine (tgt := 47) hx hb dX6_cousinsEnd_38 (by decide) (by omega) (by omega) (fun h4 => ?_) (fun h4 => ?_)
    · skip
      refine lv_iload_n hx hb dX6_cousinsEnd_47 rfl (lv_at hl 3 rfl) ?_
      exact rret hx hb hr hlk (by have hz : ¬ (x.2 ≤ dgt Tx ln (i + x.1) ∧ dgt Tx ln (i + x.1) < 7) := (by first | exact fun w => absurd ((rg_dg (n := 6) hdl (by decide)).mpr (by omega)) (by assumption) | exact fun w => absurd w.1 ((lsI_le (by omega) w.2).mp (by assumption))); rw [cc_0 hz] at hi_2; unfold cE; first | (rw [if_pos (by omega)]; rfl) | (rw [if_neg (by omega), hi_2]; rfl)) dX6_cousinsEnd_48
    · skip
      refine lv_iconst (v := (-1)) hx hb dX6_cousinsEnd_41 (by decide +kernel) ?_
      refine lv_iload_n hx hb dX6_cousinsEnd_42 rfl (lv_at hl 1 rfl) ?_
      refine lv_isub hx hb dX6_cousinsEnd_43 ?_
      refine lv_goto (tgt := 48) hx hb dX6_cousinsEnd_44 (by decide) ?_
      exact rret hx hb hr hlk (by have hz : ¬ (x.2 ≤ dgt Tx ln (i + x.1) ∧ dgt Tx ln (i + x.1) < 7) := (by first | exact fun w => absurd ((rg_dg (n := 6) hdl (by decide)).mpr (by omega)) (by assumption) | exact fun w => absurd w.1 ((lsI_le (by omega) w.2).mp (by assumption))); rw [cc_0 hz] at hi_2; unfold cE; first | (rw [if_pos (by omega)]; rfl) | (rw [if_neg (by omega), hi_2]; rfl)) dX6_cousinsEnd_48
  · skip
    refine lv_aload_n hx hb dX6_cousinsEnd_15 rfl (lv_at hl 0 rfl) ?_
    refine lv_iload_n hx hb dX6_cousinsEnd_16 rfl (lv_at hl 3 rfl) ?_
    refine rcV (As := [.int (nI (i + x.1))]) (wl := [(z0, .inr (6, fs)), (z4, .inl (G.2 0, 60, .inl (nA Tx)))]) ⟨hx, hb, hml, hown, hts⟩ (c_X6_digit l G z0 z4 fs ln Tx (i + x.1) hf5 hf6 (by omega) hT (by omega)) (cwV 1 hts gX6_cousinsEnd_X6_digit rfl rfl rfl (by decide +kernel) ⟨Nat.le_of_ble_eq_true rfl, Nat.le_of_ble_eq_true rfl⟩) hK hP 6 0 rfl rfl rfl hl.1 rfl (Nat.le_of_ble_eq_true rfl) dX6_cousinsEnd_17 ⟨Nat.zero_le _, Nat.zero_le _⟩ ?_
    refine lv_iload_n hx hb dX6_cousinsEnd_20 rfl (lv_at hl 2 rfl) ?_
    refine lv_icmp_le (tgt := 36) hx hb dX6_cousinsEnd_21 (by decide) (fun h5 => ?_) (fun h5 => ?_)
    · skip
      refine lv_iload_n hx hb dX6_cousinsEnd_36 rfl (lv_at hl 3 rfl) ?_
      refine lv_iload_n hx hb dX6_cousinsEnd_37 rfl (lv_at hl 1 rfl) ?_
      refine br_ine (tgt := 47) hx hb dX6_cousinsEnd_38 (by decide) (by omega) (by omega) (fun h6 => ?_) (fun h6 => ?_)
      · skip
        refine lv_iload_n hx hb dX6_cousinsEnd_47 rfl (lv_at hl 3 rfl) ?_
        exact rret hx hb hr hlk (by have hz : ¬ (x.2 ≤ dgt Tx ln (i + x.1) ∧ dgt Tx ln (i + x.1) < 7) := (by first | exact fun w => absurd ((rg_dg (n := 6) hdl (by decide)).mpr (by omega)) (by assumption) | exact fun w => absurd w.1 ((lsI_le (by omega) w.2).mp (by assumption))); rw [cc_0 hz] at hi_2; unfold cE; first | (rw [if_pos (by omega)]; rfl) | (rw [if_neg (by omega), hi_2]; rfl)) dX6_cousinsEnd_48
      · skip
        refine lv_iconst (v := (-1)) hx hb dX6_cousinsEnd_41 (by decide +kernel) ?_
        refine lv_iload_n hx hb dX6_cousinsEnd_42 rfl (lv_at hl 1 rfl) ?_
        refine lv_isub hx hb dX6_cousinsEnd_43 ?_
        refine lv_goto (tgt := 48) hx hb dX6_cousinsEnd_44 (by decide) ?_
        exact rret hx hb hr hlk (by have hz : ¬ (x.2 ≤ dgt Tx ln (i + x.1) ∧ dgt Tx ln (i + x.1) < 7) := (by first | exact fun w => absurd ((rg_dg (n := 6) hdl (by decide)).mpr (by omega)) (by assumption) | exact fun w => absurd w.1 ((lsI_le (by omega) w.2).mp (by assumption))); rw [cc_0 hz] at hi_2; unfold cE; first | (rw [if_pos (by omega)]; rfl) | (rw [if_neg (by omega), hi_2]; rfl)) dX6_cousinsEnd_48
    · skip
      have hcd : x.2 ≤ dgt Tx ln (i + x.1) ∧ dgt Tx ln (i + x.1) < 7 := by
                have h6 := (rg_dg (n := 6) hdl (by decide)).mp (by assumption)
                refine ⟨?_, by omega⟩
                rcases Nat.lt_or_ge (dgt Tx ln (i + x.1)) x.2 with w | w
                · exact absurd ((lsI_le (l := x.2) (d := dgt Tx ln (i + x.1)) (by omega) (by omega)).mpr (by omega)) (by assumption)
                · exact w
      refine lv_aload_n hx hb dX6_cousinsEnd_24 rfl (lv_at hl 0 rfl) ?_
      refine lv_iload_n hx hb dX6_cousinsEnd_25 rfl (lv_at hl 3 rfl) ?_
      refine rcV (As := [.int (nI (i + x.1))]) (wl := [(z0, .inr (6, fs)), (z4, .inl (G.2 0, 60, .inl (nA Tx)))]) ⟨hx, hb, hml, hown, hts⟩ (c_X6_digit l G z0 z4 fs ln Tx (i + x.1) hf5 hf6 (by omega) hT (by omega)) (cwV 1 hts gX6_cousinsEnd_X6_digit rfl rfl rfl (by decide +kernel) ⟨Nat.le_of_ble_eq_true rfl, Nat.le_of_ble_eq_true rfl⟩) hK hP 6 0 rfl rfl rfl hl.1 rfl (Nat.le_of_ble_eq_true rfl) dX6_cousinsEnd_26 ⟨Nat.zero_le _, Nat.zero_le _⟩ ?_
      refine nr_top (y := lsI (dgt Tx ln (i + x.1) + 1)) ((dgI_p (by omega)).trans (lsI_s _).symm) ?_
      refine lv_istore_n (lv' := [(2, .int (lsI (dgt Tx ln (i + x.1) + 1))), (0, .ref z0), (1, .int (nI i)), (3, .int (nI (i + x.1)))]) hx hb dX6_cousinsEnd_29 rfl hl (by decide) rfl (fun ls hl => ?_)
      refine nr_inc (d := 1) (v := (i + x.1) + 1) (lv' := [(3, .int (nI ((i + x.1) + 1))), (2, .int (lsI (dgt Tx ln (i + x.1) + 1))), (0, .ref z0), (1, .int (nI i))]) hx hb dX6_cousinsEnd_30 hl (k := 3) rfl rfl (by decide) rfl (fun ls hl => ?_)
      refine lv_goto (tgt := 4) hx hb dX6_cousinsEnd_33 (by decide) ?_
      exact ih1 (x.1 + 1, dgt Tx ln (i + x.1) + 1) ls (lv_sub hl [2, 3, 1, 0] rfl) ⟨by dsimp only; omega, by dsimp only; omega, by dsimp only; rw [hi_2, cc_s hcd (by omega), show 7 - x.1 - 1 = 7 - (x.1 + 1) by omega]; show _ = x.1 + 1 + cc Tx ln (7 - (x.1 + 1)) (i + x.1 + 1) _; omega⟩ (by dsimp only; omega))

set_option maxHeartbeats 4000000 in
set_option maxRecDepth 100000 in
theorem c_X6_orderEnd (l : Launch) (G : gG) (z0 : Nat) (z4 : Nat) (fs : List Value) (ln : Nat) (Tx : Nat → Nat) (i : Nat) (hf5 : fs[5]? = some (.ref z4)) (hf6 : fs[6]? = some (.int (nI ln))) (hln : ln ≤ 60) (hT : ∀ j, j < ln → Tx j < 65536) (hi : i ≤ 800) : Met l yX6_orderEnd wsX6_orderEnd ({ frames := 3, cells := 0, slots := 0, locals := 66 } : Room) (RD G [(z0, .inr (6, fs)), (z4, .inl (G.2 0, 60, .inl (nA Tx)))] [.ref z0, .int (nI i)]) (QcRead (er (oE Tx ln i))) 0 0 noF := rdM (C := RX6) rfl (by decide) rfl (Nat.le_of_ble_eq_true rfl) (fun pX eX sX mX bX meX cX ls hx hb hr hts hown hlk hml hP hK hl => by
  have hl : lv_has ls 4 [(0, .ref z0), (1, .int (nI i))] := hl
  have hd1 := dgt_le Tx ln (i + 1)
  have hd2 := dgt_le Tx ln (i + 2)
  have hpe := pE_le Tx ln (i + 1)
  refine lv_aload_n hx hb dX6_orderEnd_0 rfl (lv_at hl 0 rfl) ?_
  refine lv_iload_n hx hb dX6_orderEnd_1 rfl (lv_at hl 1 rfl) ?_
  refine nr_const (v := 1) hx hb dX6_orderEnd_2 rfl ?_
  refine nr_add hx hb dX6_orderEnd_3 ?_
  refine rcV (As := [.int (nI (i + 1))]) (wl := [(z0, .inr (6, fs)), (z4, .inl (G.2 0, 60, .inl (nA Tx)))]) ⟨hx, hb, hml, hown, hts⟩ (c_X6_digit l G z0 z4 fs ln Tx (i + 1) hf5 hf6 (by omega) hT (by omega)) (cwV 1 hts gX6_orderEnd_X6_digit rfl rfl rfl (by decide +kernel) ⟨Nat.le_of_ble_eq_true rfl, Nat.le_of_ble_eq_true rfl⟩) hK hP 6 0 rfl rfl rfl hl.1 rfl (Nat.le_of_ble_eq_true rfl) dX6_orderEnd_4 ⟨Nat.zero_le _, Nat.zero_le _⟩ ?_
  refine lv_istore_n (lv' := [(2, .int (dgI (dgt Tx ln (i + 1)))), (0, .ref z0), (1, .int (nI i))]) hx hb dX6_orderEnd_7 rfl hl (by decide) rfl (fun ls hl => ?_)
  refine lv_aload_n hx hb dX6_orderEnd_8 rfl (lv_at hl 1 rfl) ?_
  refine lv_iload_n hx hb dX6_orderEnd_9 rfl (lv_at hl 2 rfl) ?_
  refine rcV (As := [.int (nI i)]) (wl := [(z0, .inr (6, fs)), (z4, .inl (G.2 0, 60, .inl (nA Tx)))]) ⟨hx, hb, hml, hown, hts⟩ (c_X6_sign l G z0 z4 fs ln Tx i hf5 hf6 (by omega) hT (by omega)) (cwV 1 hts gX6_orderEnd_X6_sign rfl rfl rfl (by decide +kernel) ⟨Nat.le_of_ble_eq_true rfl, Nat.le_of_ble_eq_true rfl⟩) hK hP 6 0 rfl rfl rfl hl.1 rfl (Nat.le_of_ble_eq_true rfl) dX6_orderEnd_10 ⟨Nat.zero_le _, Nat.zero_le _⟩ ?_
  by_cases h1 : sgI Tx ln i = nI 100
  · refine nr_top h1 ?_
    refine lv_lookup (off := 141) (tgt := 154) hx hb dX6_orderEnd_13 (by decide) (by decide +kernel) (by decide) ?_
    have hs := (sgI_e (ch := 100) hT (by decide)).mp (by assumption)
    refine lv_aload_n hx hb dX6_orderEnd_154 rfl (lv_at hl 1 rfl) ?_
    refine lv_iload_n hx hb dX6_orderEnd_155 rfl (lv_at hl 2 rfl) ?_
    refine nr_const (v := 1) hx hb dX6_orderEnd_156 rfl ?_
    refine nr_add hx hb dX6_orderEnd_157 ?_
    refine rcV (As := [.int (nI (i + 1))]) (wl := [(z0, .inr (6, fs)), (z4, .inl (G.2 0, 60, .inl (nA Tx)))]) ⟨hx, hb, hml, hown, hts⟩ (c_X6_cousinsEnd l G z0 z4 fs ln Tx (i + 1) hf5 hf6 (by omega) hT (by omega)) (cwV 1 hts gX6_orderEnd_X6_cousinsEnd rfl rfl rfl (by decide +kernel) ⟨Nat.le_of_ble_eq_true rfl, Nat.le_of_ble_eq_true rfl⟩) hK hP 6 0 rfl rfl rfl hl.1 rfl (Nat.le_of_ble_eq_true rfl) dX6_orderEnd_158 ⟨Nat.zero_le _, Nat.zero_le _⟩ ?_
    exact rret hx hb hr hlk (by unfold oE; rw [if_neg (by omega), if_neg (by omega), if_neg (by omega), if_pos hs]) dX6_orderEnd_161
  · skip
    by_cases h2 : sgI Tx ln i = nI 103
    · refine nr_top h2 ?_
      refine lv_lookup (off := 89) (tgt := 102) hx hb dX6_orderEnd_13 (by decide) (by decide +kernel) (by decide) ?_
      have hs := (sgI_e (ch := 103) hT (by decide)).mp (by assumption)
      refine lv_iload_n hx hb dX6_orderEnd_102 rfl (lv_at hl 0 rfl) ?_
      refine rcS (As := [.int (dgI (dgt Tx ln (i + 1)))]) ⟨hx, hb, hml, hown, hts⟩ (c_X6_isCousin l (dgI (dgt Tx ln (i + 1)))) (va_cwS 1 hts gX6_orderEnd_X6_isCousin rfl rfl rfl (by decide +kernel) ⟨Nat.le_of_ble_eq_true rfl, Nat.le_of_ble_eq_true rfl⟩) rfl hl.1 rfl (Nat.le_of_ble_eq_true rfl) dX6_orderEnd_103 ⟨Nat.zero_le _, Nat.zero_le _⟩ ?_
      refine br_neb (tgt := 114) hx hb dX6_orderEnd_106 (by decide) (fun h3 => ?_) (fun h3 => ?_)
      · skip
        refine lv_aload_n hx hb dX6_orderEnd_114 rfl (lv_at hl 1 rfl) ?_
        refine lv_iload_n hx hb dX6_orderEnd_115 rfl (lv_at hl 2 rfl) ?_
        refine nr_const (v := 2) hx hb dX6_orderEnd_116 rfl ?_
        refine nr_add hx hb dX6_orderEnd_117 ?_
        refine rcV (As := [.int (nI (i + 2))]) (wl := [(z0, .inr (6, fs)), (z4, .inl (G.2 0, 60, .inl (nA Tx)))]) ⟨hx, hb, hml, hown, hts⟩ (c_X6_digit l G z0 z4 fs ln Tx (i + 2) hf5 hf6 (by omega) hT (by omega)) (cwV 1 hts gX6_orderEnd_X6_digit rfl rfl rfl (by decide +kernel) ⟨Nat.le_of_ble_eq_true rfl, Nat.le_of_ble_eq_true rfl⟩) hK hP 6 0 rfl rfl rfl hl.1 rfl (Nat.le_of_ble_eq_true rfl) dX6_orderEnd_118 ⟨Nat.zero_le _, Nat.zero_le _⟩ ?_
        refine rcS (As := [.int (dgI (dgt Tx ln (i + 2)))]) ⟨hx, hb, hml, hown, hts⟩ (c_X6_isCousin l (dgI (dgt Tx ln (i + 2)))) (va_cwS 1 hts gX6_orderEnd_X6_isCousin rfl rfl rfl (by decide +kernel) ⟨Nat.le_of_ble_eq_true rfl, Nat.le_of_ble_eq_true rfl⟩) rfl hl.1 rfl (Nat.le_of_ble_eq_true rfl) dX6_orderEnd_121 ⟨Nat.zero_le _, Nat.zero_le _⟩ ?_
        refine br_eqb (tgt := 149) hx hb dX6_orderEnd_124 (by decide) (fun h4 => ?_) (fun h4 => ?_)
        · skip
          refine lv_bipush (v := (-3)) hx hb dX6_orderEnd_149 (by decide +kernel) ?_
          refine lv_iload_n hx hb dX6_orderEnd_151 rfl (lv_at hl 2 rfl) ?_
          refine lv_isub hx hb dX6_orderEnd_152 ?_
          exact rret hx hb hr hlk (by have e1 := (rg_dg (n := 6) hd1 (by decide)).mp (by assumption); unfold oE; rw [if_neg (by omega), if_neg (by omega), if_pos hs, if_pos e1]; first | (rw [if_neg (fun w => absurd ((rg_dg (n := 6) hd2 (by decide)).mpr w.1) (by assumption))]; exact er_f3 i) | (rw [if_neg (fun w => absurd ((dgI_i hd2 hd1).mp (by assumption)) w.2)]; exact er_f3 i) | rw [if_pos ⟨(rg_dg (n := 6) hd2 (by decide)).mp (by assumption), fun w => absurd ((dgI_i hd2 hd1).mpr w) (by assumption)⟩]) dX6_orderEnd_153
        · skip
          refine lv_aload_n hx hb dX6_orderEnd_127 rfl (lv_at hl 1 rfl) ?_
          refine lv_iload_n hx hb dX6_orderEnd_128 rfl (lv_at hl 2 rfl) ?_
          refine nr_const (v := 2) hx hb dX6_orderEnd_129 rfl ?_
          refine nr_add hx hb dX6_orderEnd_130 ?_
          refine rcV (As := [.int (nI (i + 2))]) (wl := [(z0, .inr (6, fs)), (z4, .inl (G.2 0, 60, .inl (nA Tx)))]) ⟨hx, hb, hml, hown, hts⟩ (c_X6_digit l G z0 z4 fs ln Tx (i + 2) hf5 hf6 (by omega) hT (by omega)) (cwV 1 hts gX6_orderEnd_X6_digit rfl rfl rfl (by decide +kernel) ⟨Nat.le_of_ble_eq_true rfl, Nat.le_of_ble_eq_true rfl⟩) hK hP 6 0 rfl rfl rfl hl.1 rfl (Nat.le_of_ble_eq_true rfl) dX6_orderEnd_131 ⟨Nat.zero_le _, Nat.zero_le _⟩ ?_
          refine lv_iload_n hx hb dX6_orderEnd_134 rfl (lv_at hl 0 rfl) ?_
          refine lv_icmp_eq (tgt := 149) hx hb dX6_orderEnd_135 (by decide) (fun h5 => ?_) (fun h5 => ?_)
          · skip
            refine lv_bipush (v := (-3)) hx hb dX6_orderEnd_149 (by decide +kernel) ?_
            refine lv_iload_n hx hb dX6_orderEnd_151 rfl (lv_at hl 2 rfl) ?_
            refine lv_isub hx hb dX6_orderEnd_152 ?_
            exact rret hx hb hr hlk (by have e1 := (rg_dg (n := 6) hd1 (by decide)).mp (by assumption); unfold oE; rw [if_neg (by omega), if_neg (by omega), if_pos hs, if_pos e1]; first | (rw [if_neg (fun w => absurd ((rg_dg (n := 6) hd2 (by decide)).mpr w.1) (by assumption))]; exact er_f3 i) | (rw [if_neg (fun w => absurd ((dgI_i hd2 hd1).mp (by assumption)) w.2)]; exact er_f3 i) | rw [if_pos ⟨(rg_dg (n := 6) hd2 (by decide)).mp (by assumption), fun w => absurd ((dgI_i hd2 hd1).mpr w) (by assumption)⟩]) dX6_orderEnd_153
          · skip
            refine lv_aload_n hx hb dX6_orderEnd_138 rfl (lv_at hl 1 rfl) ?_
            refine lv_iload_n hx hb dX6_orderEnd_139 rfl (lv_at hl 2 rfl) ?_
            refine nr_const (v := 3) hx hb dX6_orderEnd_140 rfl ?_
            refine nr_add hx hb dX6_orderEnd_141 ?_
            refine nr_const (v := 1) hx hb dX6_orderEnd_142 rfl ?_
            refine rcV (As := [.int (nI (i + 3)), .int (nI 1)]) (wl := [(z0, .inr (6, fs)), (z4, .inl (G.2 0, 60, .inl (nA Tx)))]) ⟨hx, hb, hml, hown, hts⟩ (c_X6_digitsEnd l G z0 z4 fs ln Tx (i + 3) 1 hf5 hf6 (by omega) hT (by omega) (by omega)) (cwV 2 hts gX6_orderEnd_X6_digitsEnd rfl rfl rfl (by decide +kernel) ⟨Nat.le_of_ble_eq_true rfl, Nat.le_of_ble_eq_true rfl⟩) hK hP 6 0 rfl rfl rfl hl.1 rfl (Nat.le_of_ble_eq_true rfl) dX6_orderEnd_143 ⟨Nat.zero_le _, Nat.zero_le _⟩ ?_
            refine lv_goto (tgt := 153) hx hb dX6_orderEnd_146 (by decide) ?_
            exact rret hx hb hr hlk (by have e1 := (rg_dg (n := 6) hd1 (by decide)).mp (by assumption); unfold oE; rw [if_neg (by omega), if_neg (by omega), if_pos hs, if_pos e1]; first | (rw [if_neg (fun w => absurd ((rg_dg (n := 6) hd2 (by decide)).mpr w.1) (by assumption))]; exact er_f3 i) | (rw [if_neg (fun w => absurd ((dgI_i hd2 hd1).mp (by assumption)) w.2)]; exact er_f3 i) | rw [if_pos ⟨(rg_dg (n := 6) hd2 (by decide)).mp (by assumption), fun w => absurd ((dgI_i hd2 hd1).mpr w) (by assumption)⟩]) dX6_orderEnd_153
      · skip
        refine lv_bipush (v := (-2)) hx hb dX6_orderEnd_109 (by decide +kernel) ?_
        refine lv_iload_n hx hb dX6_orderEnd_111 rfl (lv_at hl 2 rfl) ?_
        refine lv_isub hx hb dX6_orderEnd_112 ?_
        exact rret hx hb hr hlk (by unfold oE; rw [if_neg (by omega), if_neg (by omega), if_pos hs, if_neg (fun w => absurd ((rg_dg (n := 6) hd1 (by decide)).mpr w) (by assumption))]; exact er_f2 i) dX6_orderEnd_113
    · skip
      by_cases h6 : sgI Tx ln i = nI 112
      · refine nr_top h6 ?_
        refine lv_lookup (off := 43) (tgt := 56) hx hb dX6_orderEnd_13 (by decide) (by decide +kernel) (by decide) ?_
        have hs := (sgI_e (ch := 112) hT (by decide)).mp (by assumption)
        refine lv_aload_n hx hb dX6_orderEnd_56 rfl (lv_at hl 1 rfl) ?_
        refine lv_iload_n hx hb dX6_orderEnd_57 rfl (lv_at hl 2 rfl) ?_
        refine nr_const (v := 1) hx hb dX6_orderEnd_58 rfl ?_
        refine nr_add hx hb dX6_orderEnd_59 ?_
        refine rcV (As := [.int (nI (i + 1))]) (wl := [(z0, .inr (6, fs)), (z4, .inl (G.2 0, 60, .inl (nA Tx)))]) ⟨hx, hb, hml, hown, hts⟩ (c_X6_plotEnd l G z0 z4 fs ln Tx (i + 1) hf5 hf6 (by omega) hT (by omega)) (cwV 1 hts gX6_orderEnd_X6_plotEnd rfl rfl rfl (by decide +kernel) ⟨Nat.le_of_ble_eq_true rfl, Nat.le_of_ble_eq_true rfl⟩) hK hP 6 0 rfl rfl rfl hl.1 rfl (Nat.le_of_ble_eq_true rfl) dX6_orderEnd_60 ⟨Nat.zero_le _, Nat.zero_le _⟩ ?_
        refine lv_istore_n (lv' := [(3, .int (er (pE Tx ln (i + 1)))), (2, .int (dgI (dgt Tx ln (i + 1)))), (0, .ref z0), (1, .int (nI i))]) hx hb dX6_orderEnd_63 rfl hl (by decide) rfl (fun ls hl => ?_)
        refine lv_iload_n hx hb dX6_orderEnd_64 rfl (lv_at hl 0 rfl) ?_
        refine lv_if_ge (tgt := 72) hx hb dX6_orderEnd_65 (by decide) (fun h7 => ?_) (fun h7 => ?_)
        · skip
          have hp1 := (er_nn (r := pE Tx ln (i + 1)) (by omega)).mp (by assumption)
          refine lv_aload_n hx hb dX6_orderEnd_72 rfl (lv_at hl 2 rfl) ?_
          refine lv_iload_n hx hb dX6_orderEnd_73 rfl (lv_at hl 0 rfl) ?_
          refine nr_top (y := nI ((pE Tx ln (i + 1)).2)) (er_p hp1) ?_
          refine nr_const (v := 4) hx hb dX6_orderEnd_74 rfl ?_
          refine rcV (As := [.int (nI ((pE Tx ln (i + 1)).2)), .int (nI 4)]) (wl := [(z0, .inr (6, fs)), (z4, .inl (G.2 0, 60, .inl (nA Tx)))]) ⟨hx, hb, hml, hown, hts⟩ (c_X6_digitsEnd l G z0 z4 fs ln Tx ((pE Tx ln (i + 1)).2) 4 hf5 hf6 (by omega) hT (by omega) (by omega)) (cwV 2 hts gX6_orderEnd_X6_digitsEnd rfl rfl rfl (by decide +kernel) ⟨Nat.le_of_ble_eq_true rfl, Nat.le_of_ble_eq_true rfl⟩) hK hP 6 0 rfl rfl rfl hl.1 rfl (Nat.le_of_ble_eq_true rfl) dX6_orderEnd_75 ⟨Nat.zero_le _, Nat.zero_le _⟩ ?_
          exact rret hx hb hr hlk (by unfold oE; rw [if_pos hs]; first | rw [if_pos hp1] | rw [if_neg (fun w => absurd ((er_nn (r := pE Tx ln (i + 1)) (by omega)).mpr w) (by assumption))]) dX6_orderEnd_78
        · skip
          refine lv_iload_n hx hb dX6_orderEnd_68 rfl (lv_at hl 0 rfl) ?_
          refine lv_goto (tgt := 78) hx hb dX6_orderEnd_69 (by decide) ?_
          exact rret hx hb hr hlk (by unfold oE; rw [if_pos hs]; first | rw [if_pos hp1] | rw [if_neg (fun w => absurd ((er_nn (r := pE Tx ln (i + 1)) (by omega)).mpr w) (by assumption))]) dX6_orderEnd_78
      · skip
        by_cases h8 : sgI Tx ln i = nI 119
        · refine nr_top h8 ?_
          refine lv_lookup (off := 66) (tgt := 79) hx hb dX6_orderEnd_13 (by decide) (by decide +kernel) (by decide) ?_
          have hs := (sgI_e (ch := 119) hT (by decide)).mp (by assumption)
          refine lv_iload_n hx hb dX6_orderEnd_79 rfl (lv_at hl 0 rfl) ?_
          refine rcS (As := [.int (dgI (dgt Tx ln (i + 1)))]) ⟨hx, hb, hml, hown, hts⟩ (c_X6_isCousin l (dgI (dgt Tx ln (i + 1)))) (va_cwS 1 hts gX6_orderEnd_X6_isCousin rfl rfl rfl (by decide +kernel) ⟨Nat.le_of_ble_eq_true rfl, Nat.le_of_ble_eq_true rfl⟩) rfl hl.1 rfl (Nat.le_of_ble_eq_true rfl) dX6_orderEnd_80 ⟨Nat.zero_le _, Nat.zero_le _⟩ ?_
          refine br_eqb (tgt := 97) hx hb dX6_orderEnd_83 (by decide) (fun h9 => ?_) (fun h9 => ?_)
          · skip
            refine lv_bipush (v := (-2)) hx hb dX6_orderEnd_97 (by decide +kernel) ?_
            refine lv_iload_n hx hb dX6_orderEnd_99 rfl (lv_at hl 2 rfl) ?_
            refine lv_isub hx hb dX6_orderEnd_100 ?_
            exact rret hx hb hr hlk (by unfold oE; rw [if_neg (by omega), if_pos hs]; first | rw [if_pos ((rg_dg (n := 6) hd1 (by decide)).mp (by assumption))] | (rw [if_neg (fun w => absurd ((rg_dg (n := 6) hd1 (by decide)).mpr w) (by assumption))]; exact er_f2 i)) dX6_orderEnd_101
          · skip
            refine lv_aload_n hx hb dX6_orderEnd_86 rfl (lv_at hl 1 rfl) ?_
            refine lv_iload_n hx hb dX6_orderEnd_87 rfl (lv_at hl 2 rfl) ?_
            refine nr_const (v := 2) hx hb dX6_orderEnd_88 rfl ?_
            refine nr_add hx hb dX6_orderEnd_89 ?_
            refine nr_const (v := 4) hx hb dX6_orderEnd_90 rfl ?_
            refine rcV (As := [.int (nI (i + 2)), .int (nI 4)]) (wl := [(z0, .inr (6, fs)), (z4, .inl (G.2 0, 60, .inl (nA Tx)))]) ⟨hx, hb, hml, hown, hts⟩ (c_X6_digitsEnd l G z0 z4 fs ln Tx (i + 2) 4 hf5 hf6 (by omega) hT (by omega) (by omega)) (cwV 2 hts gX6_orderEnd_X6_digitsEnd rfl rfl rfl (by decide +kernel) ⟨Nat.le_of_ble_eq_true rfl, Nat.le_of_ble_eq_true rfl⟩) hK hP 6 0 rfl rfl rfl hl.1 rfl (Nat.le_of_ble_eq_true rfl) dX6_orderEnd_91 ⟨Nat.zero_le _, Nat.zero_le _⟩ ?_
            refine lv_goto (tgt := 101) hx hb dX6_orderEnd_94 (by decide) ?_
            exact rret hx hb hr hlk (by unfold oE; rw [if_neg (by omega), if_pos hs]; first | rw [if_pos ((rg_dg (n := 6) hd1 (by decide)).mp (by assumption))] | (rw [if_neg (fun w => absurd ((rg_dg (n := 6) hd1 (by decide)).mpr w) (by assumption))]; exact er_f2 i)) dX6_orderEnd_101
        · skip
          refine lv_lookup (off := 149) (tgt := 162) hx hb dX6_orderEnd_13 (by decide) (by rw [lv_osw h1 (by decide), lv_osw h2 (by decide), lv_osw h6 (by decide), lv_osw h8 (by decide)]; rfl) (by decide) ?_
          have n112 : ¬ isS Tx ln i 112 := fun q => absurd ((sgI_e hT (by decide)).mpr q) (by assumption)
          have n119 : ¬ isS Tx ln i 119 := fun q => absurd ((sgI_e hT (by decide)).mpr q) (by assumption)
          have n103 : ¬ isS Tx ln i 103 := fun q => absurd ((sgI_e hT (by decide)).mpr q) (by assumption)
          have n100 : ¬ isS Tx ln i 100 := fun q => absurd ((sgI_e hT (by decide)).mpr q) (by assumption)
          refine lv_iconst (v := (-1)) hx hb dX6_orderEnd_162 (by decide +kernel) ?_
          refine lv_iload_n hx hb dX6_orderEnd_163 rfl (lv_at hl 2 rfl) ?_
          refine lv_isub hx hb dX6_orderEnd_164 ?_
          exact rret hx hb hr hlk (by unfold oE; rw [if_neg n112, if_neg n119, if_neg n103, if_neg n100]; rfl) dX6_orderEnd_165)

set_option maxHeartbeats 4000000 in
set_option maxRecDepth 100000 in
theorem c_X6_fault (l : Launch) (G : gG) (z0 : Nat) (z4 : Nat) (fs : List Value) (ln : Nat) (Tx : Nat → Nat) (hf5 : fs[5]? = some (.ref z4)) (hf6 : fs[6]? = some (.int (nI ln))) (hln : ln ≤ 60) (hT : ∀ j, j < ln → Tx j < 65536) : Met l yX6_fault wsX6_fault ({ frames := 4, cells := 0, slots := 0, locals := 89 } : Room) (RD G [(z0, .inr (6, fs)), (z4, .inl (G.2 0, 60, .inl (nA Tx)))] [.ref z0]) (QcRead (ftI (ft Tx ln 60 0 0))) 0 0 noF := rdM (C := RX6) rfl (by decide) rfl (Nat.le_of_ble_eq_true rfl) (fun pX eX sX mX bX meX cX ls hx hb hr hts hown hlk hml hP hK hl => by
  have hl : lv_has ls 4 [(0, .ref z0)] := hl
  have hF6 : ∀ w ∈ wsX60, w ∈ wsX6_fault := fun _ h => (List.mem_cons_of_mem _ (List.mem_append_right _ h))
  refine nr_const (v := 0) hx hb dX6_fault_0 rfl ?_
  refine lv_istore_n (lv' := [(1, .int (nI 0)), (0, .ref z0)]) hx hb dX6_fault_1 rfl hl (by decide) rfl (fun ls hl => ?_)
  refine nr_const (v := 0) hx hb dX6_fault_2 rfl ?_
  refine lv_istore_n (lv' := [(2, .int (nI 0)), (1, .int (nI 0)), (0, .ref z0)]) hx hb dX6_fault_3 rfl hl (by decide) rfl (fun ls hl => ?_)
  refine loop_r (T := Nat × Nat) (nL := 4) (fun x => 3 * x.1 ≤ x.2 ∧ x.2 ≤ 60 ∧ ft Tx ln 60 0 0 = ft Tx ln (60 - x.1) x.2 x.1) (fun x => 60 - x.1) (fun x => [(0, .ref z0), (1, .int (nI x.2)), (2, .int (nI x.1))]) ?_ (0, 0) (lv_sub hl [2, 1, 0] rfl) ⟨Nat.le_refl _, by decide, rfl⟩
  intro x ls hl hi2 ih1
  obtain ⟨hi_0, hi_1, hi_2⟩ := hi2
  have hi_0 : 3 * x.1 ≤ x.2 := hi_0
  have hi_1 : x.2 ≤ 60 := hi_1
  have hi_2 : ft Tx ln 60 0 0 = ft Tx ln (60 - x.1) x.2 x.1 := hi_2
  have hl : lv_has ls 4 [(0, .ref z0), (1, .int (nI x.2)), (2, .int (nI x.1))] := hl
  have hol := oE_le Tx ln x.2
  refine lv_iload_n hx hb dX6_fault_4 rfl (lv_at hl 2 rfl) ?_
  refine nr_bi (v := 60) hx hb dX6_fault_5 (by decide +kernel) ?_
  refine br_ige (tgt := 57) hx hb dX6_fault_7 (by decide) (by omega) (by decide) (fun h3 => ?_) (fun h3 => ?_)
  · exact absurd h3 (by omega)
  · skip
    refine lv_aload_n hx hb dX6_fault_10 rfl (lv_at hl 0 rfl) ?_
    refine lv_iload_n hx hb dX6_fault_11 rfl (lv_at hl 1 rfl) ?_
    refine rcV (As := [.int (nI x.2)]) (wl := [(z0, .inr (6, fs)), (z4, .inl (G.2 0, 60, .inl (nA Tx)))]) ⟨hx, hb, hml, hown, hts⟩ (c_X6_orderEnd l G z0 z4 fs ln Tx x.2 hf5 hf6 (by omega) hT (by omega)) (cwV 1 hts gX6_fault_X6_orderEnd rfl rfl rfl (by decide +kernel) ⟨Nat.le_of_ble_eq_true rfl, Nat.le_of_ble_eq_true rfl⟩) hK hP 6 0 rfl rfl rfl hl.1 rfl (Nat.le_of_ble_eq_true rfl) dX6_fault_12 ⟨Nat.zero_le _, Nat.zero_le _⟩ ?_
    refine lv_istore_n (lv' := [(3, .int (er (oE Tx ln x.2))), (0, .ref z0), (1, .int (nI x.2)), (2, .int (nI x.1))]) hx hb dX6_fault_15 rfl hl (by decide) rfl (fun ls hl => ?_)
    refine lv_iload_n hx hb dX6_fault_16 rfl (lv_at hl 0 rfl) ?_
    refine lv_if_ge (tgt := 24) hx hb dX6_fault_17 (by decide) (fun h4 => ?_) (fun h4 => ?_)
    · skip
      have ho := (er_nn (r := oE Tx ln x.2) (by omega)).mp (by assumption)
      have hog := oE_ge ho
      refine lv_iload_n hx hb dX6_fault_24 rfl (lv_at hl 0 rfl) ?_
      refine nr_top (y := nI ((oE Tx ln x.2).2)) (er_p ho) ?_
      refine lv_aload_n hx hb dX6_fault_25 rfl (lv_at hl 1 rfl) ?_
      refine va_get (D := G.1) (ci := 6) (v := .int (nI ln)) (C := RX6) (T := TX6) (N := 9) hx hb hts hF6 hown hK hP 0 rfl rfl 6 (by decide) (hts (.fieldLink RX6 121 "CousinSharesModel" "length" "I") (List.mem_of_getElem? (i := 1) rfl)) (fun _ h9 => h9) hf6 dX6_fault_26 ?_
      refine br_ine (tgt := 35) hx hb dX6_fault_29 (by decide) (by omega) (by omega) (fun h5 => ?_) (fun h5 => ?_)
      · skip
        refine lv_aload_n hx hb dX6_fault_35 rfl (lv_at hl 1 rfl) ?_
        refine lv_iload_n hx hb dX6_fault_36 rfl (lv_at hl 0 rfl) ?_
        refine nr_top (y := nI ((oE Tx ln x.2).2)) (er_p ho) ?_
        refine rcV (As := [.int (nI ((oE Tx ln x.2).2))]) (wl := [(z0, .inr (6, fs)), (z4, .inl (G.2 0, 60, .inl (nA Tx)))]) ⟨hx, hb, hml, hown, hts⟩ (c_X6_sign l G z0 z4 fs ln Tx ((oE Tx ln x.2).2) hf5 hf6 (by omega) hT (by omega)) (cwV 1 hts gX6_fault_X6_sign rfl rfl rfl (by decide +kernel) ⟨Nat.le_of_ble_eq_true rfl, Nat.le_of_ble_eq_true rfl⟩) hK hP 6 0 rfl rfl rfl hl.1 rfl (Nat.le_of_ble_eq_true rfl) dX6_fault_37 ⟨Nat.zero_le _, Nat.zero_le _⟩ ?_
        refine nr_bi (v := 59) hx hb dX6_fault_40 (by decide +kernel) ?_
        refine lv_icmp_eq (tgt := 47) hx hb dX6_fault_42 (by decide) (fun h6 => ?_) (fun h6 => ?_)
        · skip
          have hs9 := (sgI_e (ch := 59) hT (by decide)).mp (by assumption)
          refine lv_iload_n hx hb dX6_fault_47 rfl (lv_at hl 0 rfl) ?_
          refine nr_top (y := nI ((oE Tx ln x.2).2)) (er_p ho) ?_
          refine nr_const (v := 1) hx hb dX6_fault_48 rfl ?_
          refine nr_add hx hb dX6_fault_49 ?_
          refine lv_istore_n (lv' := [(1, .int (nI (((oE Tx ln x.2).2) + 1))), (3, .int (er (oE Tx ln x.2))), (0, .ref z0), (2, .int (nI x.1))]) hx hb dX6_fault_50 rfl hl (by decide) rfl (fun ls hl => ?_)
          refine nr_inc (d := 1) (v := x.1 + 1) (lv' := [(2, .int (nI (x.1 + 1))), (1, .int (nI (((oE Tx ln x.2).2) + 1))), (3, .int (er (oE Tx ln x.2))), (0, .ref z0)]) hx hb dX6_fault_51 hl (k := 3) rfl rfl (by decide) rfl (fun ls hl => ?_)
          refine lv_goto (tgt := 4) hx hb dX6_fault_54 (by decide) ?_
          exact ih1 (x.1 + 1, (oE Tx ln x.2).2 + 1) ls (lv_sub hl [3, 1, 0] rfl) ⟨by dsimp only; omega, by dsimp only; omega, by dsimp only; rw [hi_2, ft_s (by omega), if_pos ho, if_neg (by assumption), if_pos hs9, show 60 - x.1 - 1 = 60 - (x.1 + 1) by omega]⟩ (by dsimp only; omega)
        · skip
          refine lv_iload_n hx hb dX6_fault_45 rfl (lv_at hl 0 rfl) ?_
          refine nr_top (y := nI ((oE Tx ln x.2).2)) (er_p ho) ?_
          exact rret hx hb hr hlk (by rw [hi_2, ft_s (by omega), if_pos ho, if_neg (by assumption), if_neg (fun q => absurd ((sgI_e hT (by decide)).mpr q) (by assumption))]; rfl) dX6_fault_46
      · skip
        refine lv_bipush (v := (-5)) hx hb dX6_fault_32 (by decide +kernel) ?_
        exact rret hx hb hr hlk (by rw [hi_2, ft_s (by omega), if_pos ho, if_pos (by assumption)]; rfl) dX6_fault_34
    · skip
      refine lv_iconst (v := (-1)) hx hb dX6_fault_20 (by decide +kernel) ?_
      refine lv_iload_n hx hb dX6_fault_21 rfl (lv_at hl 0 rfl) ?_
      refine lv_isub hx hb dX6_fault_22 ?_
      exact rret hx hb hr hlk (by have ho : ¬ (oE Tx ln x.2).1 = true := (fun w => absurd ((er_nn (r := oE Tx ln x.2) (by omega)).mpr w) (by assumption)); rw [hi_2, ft_s (by omega), if_neg ho, er_n ho]; exact sub_sub1 _) dX6_fault_23)
