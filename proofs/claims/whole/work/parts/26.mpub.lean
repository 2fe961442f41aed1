set_option maxHeartbeats 4000000 in
set_option maxRecDepth 100000 in
theorem c_X6_changes (l : Launch) (G : gG) (z0 : Nat) (z1 : Nat) (z2 : Nat) (kn : Nat) (z3 : Nat) (ik : Nat) (z4 : Nat) (ln : Nat) (z5 : Nat) (lo : Nat) (M : Nat → Nat) (P : Nat → Nat) (at0 : Nat) (to0 : Nat) (hk : kn ≤ 4) (hat : at0 < 404) (hto : to0 < 100) (hM : M at0 < 2147483648) (sz : Nat) : Met l yX6_changes wsX6_changes ({ frames := 1, cells := 0, slots := 0, locals := 21 } : Room) (WR G [(z0, .inr (6, [.ref z1, .ref z2, .int (nI kn), .ref z3, .int (nI ik), .ref z4, .int (nI ln), .ref z5, .int (nI lo)])), (z1, .inl (G.2 0, 404, .inl (nA M))), (z2, .inl (G.2 0, 808, .inl (nA P)))] sz [.ref z0, .int (nI at0), .int (nI to0)]) (va_Qi (fun (r : Int32) (u : (Nat → Nat) × (Nat → Nat) × Nat) => match u with | ⟨m1, p1, k1⟩ => chQ M P kn (.inr (at0, to0)) r m1 p1 k1) (WB G (va_A [(z0, .inr (6, [.ref z1, .ref z2, .int (nI kn), .ref z3, .int (nI ik), .ref z4, .int (nI ln), .ref z5, .int (nI lo)])), (z1, .inl (G.2 0, 404, .inl (nA M))), (z2, .inl (G.2 0, 808, .inl (nA P)))] sz) (fun u : (Nat → Nat) × (Nat → Nat) × Nat => match u with | ⟨m1, p1, k1⟩ => [(z0, .inr (6, [.ref z1, .ref z2, .int (nI k1), .ref z3, .int (nI ik), .ref z4, .int (nI ln), .ref z5, .int (nI lo)])), (z1, .inl (G.2 0, 404, .inl (nA m1))), (z2, .inl (G.2 0, 808, .inl (nA p1)))])) (va_A [(z0, .inr (6, [.ref z1, .ref z2, .int (nI kn), .ref z3, .int (nI ik), .ref z4, .int (nI ln), .ref z5, .int (nI lo)])), (z1, .inl (G.2 0, 404, .inl (nA M))), (z2, .inl (G.2 0, 808, .inl (nA P)))] sz)) 0 0 (va_A [(z0, .inr (6, [.ref z1, .ref z2, .int (nI kn), .ref z3, .int (nI ik), .ref z4, .int (nI ln), .ref z5, .int (nI lo)])), (z1, .inl (G.2 0, 404, .inl (nA M))), (z2, .inl (G.2 0, 808, .inl (nA P)))] sz) := wrM (Qf := fun AA => va_Qi (fun (r : Int32) (u : (Nat → Nat) × (Nat → Nat) × Nat) => match u with | ⟨m1, p1, k1⟩ => chQ M P kn (.inr (at0, to0)) r m1 p1 k1) (WB G AA (fun u : (Nat → Nat) × (Nat → Nat) × Nat => match u with | ⟨m1, p1, k1⟩ => [(z0, .inr (6, [.ref z1, .ref z2, .int (nI k1), .ref z3, .int (nI ik), .ref z4, .int (nI ln), .ref z5, .int (nI lo)])), (z1, .inl (G.2 0, 404, .inl (nA m1))), (z2, .inl (G.2 0, 808, .inl (nA p1)))])) AA) (C := RX6) rfl (by decide) rfl (Nat.le_of_ble_eq_true rfl) (fun pX eX sX mX bX meX cX ls AA hx hb hr hts hown hlk hml hin hP hK hD hAA hS hl => by
  have hl : lv_has ls 4 [(0, .ref z0), (1, .int (nI at0)), (2, .int (nI to0))] := hl
  have hF6 : ∀ w ∈ wsX60, w ∈ wsX6_changes := fun _ h => (List.mem_cons_of_mem _ (List.mem_append_right _ h))
  refine lv_aload_n hx hb dX6_changes_0 rfl (lv_at hl 0 rfl) ?_
  refine va_get (D := G.1) (ci := 6) (v := .ref z1) (C := RX6) (T := TX6) (N := 9) hx hb hts hF6 hown hK hP 0 rfl rfl 0 (by decide) (hts (.fieldLink RX6 7 "CousinSharesModel" "s" "[I") (List.mem_of_getElem? (i := 1) rfl)) (fun _ h9 => h9) rfl dX6_changes_1 ?_
  refine lv_iload_n hx hb dX6_changes_4 rfl (lv_at hl 1 rfl) ?_
  refine nr_ald hx hb hK hP 1 rfl (by omega) (by decide) dX6_changes_5 ?_
  refine lv_istore_n (lv' := [(3, .int (nI (M at0))), (0, .ref z0), (1, .int (nI at0)), (2, .int (nI to0))]) hx hb dX6_changes_6 rfl hl (by decide) rfl (fun ls hl => ?_)
  refine lv_iload_n hx hb dX6_changes_7 rfl (lv_at hl 0 rfl) ?_
  refine lv_iload_n hx hb dX6_changes_8 rfl (lv_at hl 3 rfl) ?_
  refine br_ine (tgt := 15) hx hb dX6_changes_9 (by decide) (by omega) (by omega) (fun h1 => ?_) (fun h1 => ?_)
  · skip
    refine lv_aload_n hx hb dX6_changes_15 rfl (lv_at hl 1 rfl) ?_
    refine wcVv (As := []) (ws := [(z0, .inr (6, [.ref z1, .ref z2, .int (nI kn), .ref z3, .int (nI ik), .ref z4, .int (nI ln), .ref z5, .int (nI lo)])), (z1, .inl (G.2 0, 404, .inl (nA M))), (z2, .inl (G.2 0, 808, .inl (nA P)))]) (wc := [(z0, .inr (6, [.ref z1, .ref z2, .int (nI kn), .ref z3, .int (nI ik), .ref z4, .int (nI ln), .ref z5, .int (nI lo)])), (z1, .inl (G.2 0, 404, .inl (nA M))), (z2, .inl (G.2 0, 808, .inl (nA P)))]) (wr := []) (wn := fun _ => [(z0, .inr (6, [.ref z1, .ref z2, .int (nI (pushK kn)), .ref z3, .int (nI ik), .ref z4, .int (nI ln), .ref z5, .int (nI lo)])), (z1, .inl (G.2 0, 404, .inl (nA M))), (z2, .inl (G.2 0, 808, .inl (nA (pushP P M kn))))]) ⟨hx, hb, hml, hown, hts⟩ (c_X6_remembers l G z0 z1 z2 kn z3 ik z4 ln z5 lo M P (by omega) _) (cwV 0 hts gX6_changes_X6_remembers rfl rfl rfl (by decide +kernel) ⟨Nat.le_of_ble_eq_true rfl, Nat.le_of_ble_eq_true rfl⟩) hK hP hD hS hAA [0, 1, 2] [] [0, 1, 2] rfl rfl rfl rfl (by decide) rfl (fun _ => rfl) 6 0 rfl rfl rfl hl.1 rfl (Nat.le_of_ble_eq_true rfl) dX6_changes_16 ⟨by first | exact Nat.le_of_ble_eq_true rfl | omega, by first | exact Nat.le_of_ble_eq_true rfl | omega⟩ (fun uu H locs hw2 hP hD hS => ?_)
    have hP : va_P G.1 vwCl [(z0, .inr (6, [.ref z1, .ref z2, .int (nI (pushK kn)), .ref z3, .int (nI ik), .ref z4, .int (nI ln), .ref z5, .int (nI lo)])), (z1, .inl (G.2 0, 404, .inl (nA M))), (z2, .inl (G.2 0, 808, .inl (nA (pushP P M kn))))] _ := hP
    have hD : va_D AA [(z0, .inr (6, [.ref z1, .ref z2, .int (nI (pushK kn)), .ref z3, .int (nI ik), .ref z4, .int (nI ln), .ref z5, .int (nI lo)])), (z1, .inl (G.2 0, 404, .inl (nA M))), (z2, .inl (G.2 0, 808, .inl (nA (pushP P M kn))))] := hD
    refine lv_aload_n hx hb dX6_changes_19 rfl (lv_at hl 1 rfl) ?_
    refine va_get (D := G.1) (ci := 6) (v := .ref z1) (C := RX6) (T := TX6) (N := 9) hx hb hts hF6 hown hK hP 0 rfl rfl 0 (by decide) (hts (.fieldLink RX6 7 "CousinSharesModel" "s" "[I") (List.mem_of_getElem? (i := 1) rfl)) (fun _ h9 => h9) rfl dX6_changes_20 ?_
    refine lv_iload_n hx hb dX6_changes_23 rfl (lv_at hl 2 rfl) ?_
    refine lv_iload_n hx hb dX6_changes_24 rfl (lv_at hl 3 rfl) ?_
    refine nr_ast (ws' := [(z0, .inr (6, [.ref z1, .ref z2, .int (nI (pushK kn)), .ref z3, .int (nI ik), .ref z4, .int (nI ln), .ref z5, .int (nI lo)])), (z1, .inl (G.2 0, 404, .inl (nA (va_up M at0 to0)))), (z2, .inl (G.2 0, 808, .inl (nA (pushP P M kn))))]) hx hb hK hP hD hS 1 rfl (by omega) (by decide) dX6_changes_25 rfl (fun H locs hP hD hS => ?_)
    refine lv_iload_n hx hb dX6_changes_26 rfl (lv_at hl 0 rfl) ?_
    exact wret hx hb hr hlk hK hS ((va_up M at0 to0, pushP P M kn, pushK kn)) hP hD (chQ_n (by assumption)) dX6_changes_27
  · skip
    refine lv_bipush (v := (-5)) hx hb dX6_changes_12 (by decide +kernel) ?_
    exact wret hx hb hr hlk hK hS ((M, P, kn)) hP hD (chQ_e (by assumption)) dX6_changes_14)

set_option maxHeartbeats 4000000 in
set_option maxRecDepth 100000 in
theorem c_X6_plant (l : Launch) (G : gG) (z0 : Nat) (z1 : Nat) (z2 : Nat) (kn : Nat) (z3 : Nat) (ik : Nat) (z4 : Nat) (ln : Nat) (z5 : Nat) (lo : Nat) (M : Nat → Nat) (P : Nat → Nat) (x : Int32) (y : Int32) (z : Int32) (hk : kn ≤ 4) (h0 : ok M) (sz : Nat) : Met l yX6_plant wsX6_plant ({ frames := 2, cells := 0, slots := 0, locals := 44 } : Room) (WR G [(z0, .inr (6, [.ref z1, .ref z2, .int (nI kn), .ref z3, .int (nI ik), .ref z4, .int (nI ln), .ref z5, .int (nI lo)])), (z1, .inl (G.2 0, 404, .inl (nA M))), (z2, .inl (G.2 0, 808, .inl (nA P)))] sz [.ref z0, .int x, .int y, .int z]) (va_Qi (fun (r : Int32) (u : (Nat → Nat) × (Nat → Nat) × Nat) => match u with | ⟨m1, p1, k1⟩ => chQ M P kn (pPlant x y z) r m1 p1 k1) (WB G (va_A [(z0, .inr (6, [.ref z1, .ref z2, .int (nI kn), .ref z3, .int (nI ik), .ref z4, .int (nI ln), .ref z5, .int (nI lo)])), (z1, .inl (G.2 0, 404, .inl (nA M))), (z2, .inl (G.2 0, 808, .inl (nA P)))] sz) (fun u : (Nat → Nat) × (Nat → Nat) × Nat => match u with | ⟨m1, p1, k1⟩ => [(z0, .inr (6, [.ref z1, .ref z2, .int (nI k1), .ref z3, .int (nI ik), .ref z4, .int (nI ln), .ref z5, .int (nI lo)])), (z1, .inl (G.2 0, 404, .inl (nA m1))), (z2, .inl (G.2 0, 808, .inl (nA p1)))])) (va_A [(z0, .inr (6, [.ref z1, .ref z2, .int (nI kn), .ref z3, .int (nI ik), .ref z4, .int (nI ln), .ref z5, .int (nI lo)])), (z1, .inl (G.2 0, 404, .inl (nA M))), (z2, .inl (G.2 0, 808, .inl (nA P)))] sz)) 0 0 (va_A [(z0, .inr (6, [.ref z1, .ref z2, .int (nI kn), .ref z3, .int (nI ik), .ref z4, .int (nI ln), .ref z5, .int (nI lo)])), (z1, .inl (G.2 0, 404, .inl (nA M))), (z2, .inl (G.2 0, 808, .inl (nA P)))] sz) := wrM (Qf := fun AA => va_Qi (fun (r : Int32) (u : (Nat → Nat) × (Nat → Nat) × Nat) => match u with | ⟨m1, p1, k1⟩ => chQ M P kn (pPlant x y z) r m1 p1 k1) (WB G AA (fun u : (Nat → Nat) × (Nat → Nat) × Nat => match u with | ⟨m1, p1, k1⟩ => [(z0, .inr (6, [.ref z1, .ref z2, .int (nI k1), .ref z3, .int (nI ik), .ref z4, .int (nI ln), .ref z5, .int (nI lo)])), (z1, .inl (G.2 0, 404, .inl (nA m1))), (z2, .inl (G.2 0, 808, .inl (nA p1)))])) AA) (C := RX6) rfl (by decide) rfl (Nat.le_of_ble_eq_true rfl) (fun pX eX sX mX bX meX cX ls AA hx hb hr hts hown hlk hml hin hP hK hD hAA hS hl => by
  have hl : lv_has ls 4 [(0, .ref z0), (1, .int x), (2, .int y), (3, .int z)] := hl
  refine lv_iload_n hx hb dX6_plant_0 rfl (lv_at hl 1 rfl) ?_
  refine rcS (As := [.int x]) ⟨hx, hb, hml, hown, hts⟩ (c_X6_isPlot l x) (va_cwS 1 hts gX6_plant_X6_isPlot rfl rfl rfl (by decide +kernel) ⟨Nat.le_of_ble_eq_true rfl, Nat.le_of_ble_eq_true rfl⟩) rfl hl.1 rfl (Nat.le_of_ble_eq_true rfl) dX6_plant_1 ⟨Nat.zero_le _, Nat.zero_le _⟩ ?_
  refine br_eqb (tgt := 14) hx hb dX6_plant_4 (by decide) (fun h1 => ?_) (fun h1 => ?_)
  · skip
    refine lv_iconst (v := (-1)) hx hb dX6_plant_14 (by decide +kernel) ?_
    exact wret hx hb hr hlk hK hS ((M, P, kn)) hP hD (by have e : pPlant x y z = .inl (-1) := (by unfold pPlant; first | rw [if_neg (fun q => absurd q.1 (by assumption))] | rw [if_neg (fun q => absurd q.2 (by assumption))]); rw [e]; exact chQ_l _ _ _ _) dX6_plant_15
  · skip
    refine lv_iload_n hx hb dX6_plant_7 rfl (lv_at hl 2 rfl) ?_
    refine rcS (As := [.int y]) ⟨hx, hb, hml, hown, hts⟩ (c_X6_isCrop l y) (va_cwS 1 hts gX6_plant_X6_isCrop rfl rfl rfl (by decide +kernel) ⟨Nat.le_of_ble_eq_true rfl, Nat.le_of_ble_eq_true rfl⟩) rfl hl.1 rfl (Nat.le_of_ble_eq_true rfl) dX6_plant_8 ⟨Nat.zero_le _, Nat.zero_le _⟩ ?_
    refine br_neb (tgt := 16) hx hb dX6_plant_11 (by decide) (fun h2 => ?_) (fun h2 => ?_)
    · skip
      refine lv_iload_n hx hb dX6_plant_16 rfl (lv_at hl 3 rfl) ?_
      refine nr_const (v := 0) hx hb dX6_plant_17 rfl ?_
      refine nr_bi (v := 9) hx hb dX6_plant_18 (by decide +kernel) ?_
      refine rcS (As := [.int z, .int (nI 0), .int (nI 9)]) ⟨hx, hb, hml, hown, hts⟩ (c_X6_in l z (nI 0) (nI 9)) (va_cwS 3 hts gX6_plant_X6_in rfl rfl rfl (by decide +kernel) ⟨Nat.le_of_ble_eq_true rfl, Nat.le_of_ble_eq_true rfl⟩) rfl hl.1 rfl (Nat.le_of_ble_eq_true rfl) dX6_plant_20 ⟨Nat.zero_le _, Nat.zero_le _⟩ ?_
      refine br_eqb (tgt := 41) hx hb dX6_plant_23 (by decide) (fun h3 => ?_) (fun h3 => ?_)
      · skip
        refine lv_bipush (v := (-2)) hx hb dX6_plant_41 (by decide +kernel) ?_
        exact wret hx hb hr hlk hK hS ((M, P, kn)) hP hD (by have e : pPlant x y z = .inl (-2) := (by unfold pPlant; rw [if_pos ⟨by assumption, by assumption⟩, if_neg (by assumption)]); rw [e]; exact chQ_l _ _ _ _) dX6_plant_43
      · skip
        obtain ⟨a, hr_a, rfl⟩ := rg_of (x := x) (n := 23) (by assumption) (by decide)
        obtain ⟨b, hr_b, rfl⟩ := rg_of (x := y) (n := 3) (by assumption) (by decide)
        obtain ⟨d, hr_d, rfl⟩ := rg_of (x := z) (n := 9) (by assumption) (by decide)
        have hl : lv_has ls 4 [(0, .ref z0), (1, .int (nI a)), (2, .int (nI b)), (3, .int (nI d))] := hl
        refine lv_aload_n hx hb dX6_plant_26 rfl (lv_at hl 0 rfl) ?_
        refine nr_const (v := 0) hx hb dX6_plant_27 rfl ?_
        refine nr_const (v := 4) hx hb dX6_plant_28 rfl ?_
        refine lv_iload_n hx hb dX6_plant_29 rfl (lv_at hl 1 rfl) ?_
        refine nr_mul hx hb dX6_plant_30 ?_
        refine nr_add hx hb dX6_plant_31 ?_
        refine lv_iload_n hx hb dX6_plant_32 rfl (lv_at hl 2 rfl) ?_
        refine nr_add hx hb dX6_plant_33 ?_
        refine lv_iload_n hx hb dX6_plant_34 rfl (lv_at hl 3 rfl) ?_
        refine wcVi (As := [.int (nI ((0 + (4 * a)) + b)), .int (nI d)]) (ws := [(z0, .inr (6, [.ref z1, .ref z2, .int (nI kn), .ref z3, .int (nI ik), .ref z4, .int (nI ln), .ref z5, .int (nI lo)])), (z1, .inl (G.2 0, 404, .inl (nA M))), (z2, .inl (G.2 0, 808, .inl (nA P)))]) (wc := [(z0, .inr (6, [.ref z1, .ref z2, .int (nI kn), .ref z3, .int (nI ik), .ref z4, .int (nI ln), .ref z5, .int (nI lo)])), (z1, .inl (G.2 0, 404, .inl (nA M))), (z2, .inl (G.2 0, 808, .inl (nA P)))]) (wr := []) (wn := fun u => match u with | ⟨u0, u1, u2⟩ => [(z0, .inr (6, [.ref z1, .ref z2, .int (nI u2), .ref z3, .int (nI ik), .ref z4, .int (nI ln), .ref z5, .int (nI lo)])), (z1, .inl (G.2 0, 404, .inl (nA u0))), (z2, .inl (G.2 0, 808, .inl (nA u1)))]) ⟨hx, hb, hml, hown, hts⟩ (c_X6_changes l G z0 z1 z2 kn z3 ik z4 ln z5 lo M P ((0 + (4 * a)) + b) d (by omega) (by omega) (by omega) (by have := h0.1 (0 + 4 * a + b) (by omega); omega) _) (cwV 2 hts gX6_plant_X6_changes rfl rfl rfl (by decide +kernel) ⟨Nat.le_of_ble_eq_true rfl, Nat.le_of_ble_eq_true rfl⟩) hK hP hD hS hAA [0, 1, 2] [] [0, 1, 2] rfl rfl rfl rfl (by decide) rfl (fun _ => rfl) 6 0 rfl rfl rfl hl.1 rfl (Nat.le_of_ble_eq_true rfl) dX6_plant_35 ⟨by first | exact Nat.le_of_ble_eq_true rfl | omega, by first | exact Nat.le_of_ble_eq_true rfl | omega⟩ (fun rr8 uu H locs hw7 hP hD hS => ?_)
        obtain ⟨m1_4, p1_5, k1_6⟩ := uu
        have hP : va_P G.1 vwCl [(z0, .inr (6, [.ref z1, .ref z2, .int (nI k1_6), .ref z3, .int (nI ik), .ref z4, .int (nI ln), .ref z5, .int (nI lo)])), (z1, .inl (G.2 0, 404, .inl (nA m1_4))), (z2, .inl (G.2 0, 808, .inl (nA p1_5)))] _ := hP
        have hD : va_D AA [(z0, .inr (6, [.ref z1, .ref z2, .int (nI k1_6), .ref z3, .int (nI ik), .ref z4, .int (nI ln), .ref z5, .int (nI lo)])), (z1, .inl (G.2 0, 404, .inl (nA m1_4))), (z2, .inl (G.2 0, 808, .inl (nA p1_5)))] := hD
        refine lv_goto (tgt := 43) hx hb dX6_plant_38 (by decide) ?_
        exact wret hx hb hr hlk hK hS ((m1_4, p1_5, k1_6)) hP hD (by have e : pPlant (nI a) (nI b) (nI d) = .inr (0 + 4 * a + b, d) := (by unfold pPlant; rw [if_pos ⟨by assumption, by assumption⟩, if_pos (by assumption), nn_n (by omega), nn_n (by omega), nn_n (by omega)]); rw [e]; exact hw7) dX6_plant_43
    · skip
      refine lv_iconst (v := (-1)) hx hb dX6_plant_14 (by decide +kernel) ?_
      exact wret hx hb hr hlk hK hS ((M, P, kn)) hP hD (by have e : pPlant x y z = .inl (-1) := (by unfold pPlant; first | rw [if_neg (fun q => absurd q.1 (by assumption))] | rw [if_neg (fun q => absurd q.2 (by assumption))]); rw [e]; exact chQ_l _ _ _ _) dX6_plant_15)

set_option maxHeartbeats 4000000 in
set_option maxRecDepth 100000 in
theorem c_X6_weigh (l : Launch) (G : gG) (z0 : Nat) (z1 : Nat) (z2 : Nat) (kn : Nat) (z3 : Nat) (ik : Nat) (z4 : Nat) (ln : Nat) (z5 : Nat) (lo : Nat) (M : Nat → Nat) (P : Nat → Nat) (x : Int32) (y : Int32) (z : Int32) (hk : kn ≤ 4) (h0 : ok M) (sz : Nat) : Met l yX6_weigh wsX6_weigh ({ frames := 2, cells := 0, slots := 0, locals := 44 } : Room) (WR G [(z0, .inr (6, [.ref z1, .ref z2, .int (nI kn), .ref z3, .int (nI ik), .ref z4, .int (nI ln), .ref z5, .int (nI lo)])), (z1, .inl (G.2 0, 404, .inl (nA M))), (z2, .inl (G.2 0, 808, .inl (nA P)))] sz [.ref z0, .int x, .int y, .int z]) (va_Qi (fun (r : Int32) (u : (Nat → Nat) × (Nat → Nat) × Nat) => match u with | ⟨m1, p1, k1⟩ => chQ M P kn (pWeigh x y z) r m1 p1 k1) (WB G (va_A [(z0, .inr (6, [.ref z1, .ref z2, .int (nI kn), .ref z3, .int (nI ik), .ref z4, .int (nI ln), .ref z5, .int (nI lo)])), (z1, .inl (G.2 0, 404, .inl (nA M))), (z2, .inl (G.2 0, 808, .inl (nA P)))] sz) (fun u : (Nat → Nat) × (Nat → Nat) × Nat => match u with | ⟨m1, p1, k1⟩ => [(z0, .inr (6, [.ref z1, .ref z2, .int (nI k1), .ref z3, .int (nI ik), .ref z4, .int (nI ln), .ref z5, .int (nI lo)])), (z1, .inl (G.2 0, 404, .inl (nA m1))), (z2, .inl (G.2 0, 808, .inl (nA p1)))])) (va_A [(z0, .inr (6, [.ref z1, .ref z2, .int (nI kn), .ref z3, .int (nI ik), .ref z4, .int (nI ln), .ref z5, .int (nI lo)])), (z1, .inl (G.2 0, 404, .inl (nA M))), (z2, .inl (G.2 0, 808, .inl (nA P)))] sz)) 0 0 (va_A [(z0, .inr (6, [.ref z1, .ref z2, .int (nI kn), .ref z3, .int (nI ik), .ref z4, .int (nI ln), .ref z5, .int (nI lo)])), (z1, .inl (G.2 0, 404, .inl (nA M))), (z2, .inl (G.2 0, 808, .inl (nA P)))] sz) := wrM (Qf := fun AA => va_Qi (fun (r : Int32) (u : (Nat → Nat) × (Nat → Nat) × Nat) => match u with | ⟨m1, p1, k1⟩ => chQ M P kn (pWeigh x y z) r m1 p1 k1) (WB G AA (fun u : (Nat → Nat) × (Nat → Nat) × Nat => match u with | ⟨m1, p1, k1⟩ => [(z0, .inr (6, [.ref z1, .ref z2, .int (nI k1), .ref z3, .int (nI ik), .ref z4, .int (nI ln), .ref z5, .int (nI lo)])), (z1, .inl (G.2 0, 404, .inl (nA m1))), (z2, .inl (G.2 0, 808, .inl (nA p1)))])) AA) (C := RX6) rfl (by decide) rfl (Nat.le_of_ble_eq_true rfl) (fun pX eX sX mX bX meX cX ls AA hx hb hr hts hown hlk hml hin hP hK hD hAA hS hl => by
  have hl : lv_has ls 4 [(0, .ref z0), (1, .int x), (2, .int y), (3, .int z)] := hl
  refine lv_iload_n hx hb dX6_weigh_0 rfl (lv_at hl 1 rfl) ?_
  refine rcS (As := [.int x]) ⟨hx, hb, hml, hown, hts⟩ (c_X6_isCousin l x) (va_cwS 1 hts gX6_weigh_X6_isCousin rfl rfl rfl (by decide +kernel) ⟨Nat.le_of_ble_eq_true rfl, Nat.le_of_ble_eq_true rfl⟩) rfl hl.1 rfl (Nat.le_of_ble_eq_true rfl) dX6_weigh_1 ⟨Nat.zero_le _, Nat.zero_le _⟩ ?_
  refine br_eqb (tgt := 14) hx hb dX6_weigh_4 (by decide) (fun h1 => ?_) (fun h1 => ?_)
  · skip
    refine lv_iconst (v := (-1)) hx hb dX6_weigh_14 (by decide +kernel) ?_
    exact wret hx hb hr hlk hK hS ((M, P, kn)) hP hD (by have e : pWeigh x y z = .inl (-1) := (by unfold pWeigh; first | rw [if_neg (fun q => absurd q.1 (by assumption))] | rw [if_neg (fun q => absurd q.2 (by assumption))]); rw [e]; exact chQ_l _ _ _ _) dX6_weigh_15
  · skip
    refine lv_iload_n hx hb dX6_weigh_7 rfl (lv_at hl 2 rfl) ?_
    refine rcS (As := [.int y]) ⟨hx, hb, hml, hown, hts⟩ (c_X6_isCrop l y) (va_cwS 1 hts gX6_weigh_X6_isCrop rfl rfl rfl (by decide +kernel) ⟨Nat.le_of_ble_eq_true rfl, Nat.le_of_ble_eq_true rfl⟩) rfl hl.1 rfl (Nat.le_of_ble_eq_true rfl) dX6_weigh_8 ⟨Nat.zero_le _, Nat.zero_le _⟩ ?_
    refine br_neb (tgt := 16) hx hb dX6_weigh_11 (by decide) (fun h2 => ?_) (fun h2 => ?_)
    · skip
      refine lv_iload_n hx hb dX6_weigh_16 rfl (lv_at hl 3 rfl) ?_
      refine nr_const (v := 0) hx hb dX6_weigh_17 rfl ?_
      refine nr_bi (v := 9) hx hb dX6_weigh_18 (by decide +kernel) ?_
      refine rcS (As := [.int z, .int (nI 0), .int (nI 9)]) ⟨hx, hb, hml, hown, hts⟩ (c_X6_in l z (nI 0) (nI 9)) (va_cwS 3 hts gX6_weigh_X6_in rfl rfl rfl (by decide +kernel) ⟨Nat.le_of_ble_eq_true rfl, Nat.le_of_ble_eq_true rfl⟩) rfl hl.1 rfl (Nat.le_of_ble_eq_true rfl) dX6_weigh_20 ⟨Nat.zero_le _, Nat.zero_le _⟩ ?_
      refine br_eqb (tgt := 42) hx hb dX6_weigh_23 (by decide) (fun h3 => ?_) (fun h3 => ?_)
      · skip
        refine lv_bipush (v := (-2)) hx hb dX6_weigh_42 (by decide +kernel) ?_
        exact wret hx hb hr hlk hK hS ((M, P, kn)) hP hD (by have e : pWeigh x y z = .inl (-2) := (by unfold pWeigh; rw [if_pos ⟨by assumption, by assumption⟩, if_neg (by assumption)]); rw [e]; exact chQ_l _ _ _ _) dX6_weigh_44
      · skip
        obtain ⟨a, hr_a, rfl⟩ := rg_of (x := x) (n := 6) (by assumption) (by decide)
        obtain ⟨b, hr_b, rfl⟩ := rg_of (x := y) (n := 3) (by assumption) (by decide)
        obtain ⟨d, hr_d, rfl⟩ := rg_of (x := z) (n := 9) (by assumption) (by decide)
        have hl : lv_has ls 4 [(0, .ref z0), (1, .int (nI a)), (2, .int (nI b)), (3, .int (nI d))] := hl
        refine lv_aload_n hx hb dX6_weigh_26 rfl (lv_at hl 0 rfl) ?_
        refine nr_bi (v := 120) hx hb dX6_weigh_27 (by decide +kernel) ?_
        refine nr_const (v := 4) hx hb dX6_weigh_29 rfl ?_
        refine lv_iload_n hx hb dX6_weigh_30 rfl (lv_at hl 1 rfl) ?_
        refine nr_mul hx hb dX6_weigh_31 ?_
        refine nr_add hx hb dX6_weigh_32 ?_
        refine lv_iload_n hx hb dX6_weigh_33 rfl (lv_at hl 2 rfl) ?_
        refine nr_add hx hb dX6_weigh_34 ?_
        refine lv_iload_n hx hb dX6_weigh_35 rfl (lv_at hl 3 rfl) ?_
        refine wcVi (As := [.int (nI ((120 + (4 * a)) + b)), .int (nI d)]) (ws := [(z0, .inr (6, [.ref z1, .ref z2, .int (nI kn), .ref z3, .int (nI ik), .ref z4, .int (nI ln), .ref z5, .int (nI lo)])), (z1, .inl (G.2 0, 404, .inl (nA M))), (z2, .inl (G.2 0, 808, .inl (nA P)))]) (wc := [(z0, .inr (6, [.ref z1, .ref z2, .int (nI kn), .ref z3, .int (nI ik), .ref z4, .int (nI ln), .ref z5, .int (nI lo)])), (z1, .inl (G.2 0, 404, .inl (nA M))), (z2, .inl (G.2 0, 808, .inl (nA P)))]) (wr := []) (wn := fun u => match u with | ⟨u0, u1, u2⟩ => [(z0, .inr (6, [.ref z1, .ref z2, .int (nI u2), .ref z3, .int (nI ik), .ref z4, .int (nI ln), .ref z5, .int (nI lo)])), (z1, .inl (G.2 0, 404, .inl (nA u0))), (z2, .inl (G.2 0, 808, .inl (nA u1)))]) ⟨hx, hb, hml, hown, hts⟩ (c_X6_changes l G z0 z1 z2 kn z3 ik z4 ln z5 lo M P ((120 + (4 * a)) + b) d (by omega) (by omega) (by omega) (by have := h0.2.2.1 (4 * a + b) (by omega); rw [show 120 + (4 * a + b) = 120 + 4 * a + b by omega] at this; omega) _) (cwV 2 hts gX6_weigh_X6_changes rfl rfl rfl (by decide +kernel) ⟨Nat.le_of_ble_eq_true rfl, Nat.le_of_ble_eq_true rfl⟩) hK hP hD hS hAA [0, 1, 2] [] [0, 1, 2] rfl rfl rfl rfl (by decide) rfl (fun _ => rfl) 6 0 rfl rfl rfl hl.1 rfl (Nat.le_of_ble_eq_true rfl) dX6_weigh_36 ⟨by first | exact Nat.le_of_ble_eq_true rfl | omega, by first | exact Nat.le_of_ble_eq_true rfl | omega⟩ (fun rr8 uu H locs hw7 hP hD hS => ?_)
        obtain ⟨m1_4, p1_5, k1_6⟩ := uu
        have hP : va_P G.1 vwCl [(z0, .inr (6, [.ref z1, .ref z2, .int (nI k1_6), .ref z3, .int (nI ik), .ref z4, .int (nI ln), .ref z5, .int (nI lo)])), (z1, .inl (G.2 0, 404, .inl (nA m1_4))), (z2, .inl (G.2 0, 808, .inl (nA p1_5)))] _ := hP
        have hD : va_D AA [(z0, .inr (6, [.ref z1, .ref z2, .int (nI k1_6), .ref z3, .int (nI ik), .ref z4, .int (nI ln), .ref z5, .int (nI lo)])), (z1, .inl (G.2 0, 404, .inl (nA m1_4))), (z2, .inl (G.2 0, 808, .inl (nA p1_5)))] := hD
        refine lv_goto (tgt := 44) hx hb dX6_weigh_39 (by decide) ?_
        exact wret hx hb hr hlk hK hS ((m1_4, p1_5, k1_6)) hP hD (by have e : pWeigh (nI a) (nI b) (nI d) = .inr (120 + 4 * a + b, d) := (by unfold pWeigh; rw [if_pos ⟨by assumption, by assumption⟩, if_pos (by assumption), nn_n (by omega), nn_n (by omega), nn_n (by omega)]); rw [e]; exact hw7) dX6_weigh_44
    · skip
      refine lv_iconst (v := (-1)) hx hb dX6_weigh_14 (by decide +kernel) ?_
      exact wret hx hb hr hlk hK hS ((M, P, kn)) hP hD (by have e : pWeigh x y z = .inl (-1) := (by unfold pWeigh; first | rw [if_neg (fun q => absurd q.1 (by assumption))] | rw [if_neg (fun q => absurd q.2 (by assumption))]); rw [e]; exact chQ_l _ _ _ _) dX6_weigh_15)

set_option maxHeartbeats 4000000 in
set_option maxRecDepth 100000 in
theorem c_X6_grudge (l : Launch) (G : gG) (z0 : Nat) (z1 : Nat) (z2 : Nat) (kn : Nat) (z3 : Nat) (ik : Nat) (z4 : Nat) (ln : Nat) (z5 : Nat) (lo : Nat) (M : Nat → Nat) (P : Nat → Nat) (x : Int32) (y : Int32) (z : Int32) (hk : kn ≤ 4) (h0 : ok M) (sz : Nat) : Met l yX6_grudge wsX6_grudge ({ frames := 2, cells := 0, slots := 0, locals := 44 } : Room) (WR G [(z0, .inr (6, [.ref z1, .ref z2, .int (nI kn), .ref z3, .int (nI ik), .ref z4, .int (nI ln), .ref z5, .int (nI lo)])), (z1, .inl (G.2 0, 404, .inl (nA M))), (z2, .inl (G.2 0, 808, .inl (nA P)))] sz [.ref z0, .int x, .int y, .int z]) (va_Qi (fun (r : Int32) (u : (Nat → Nat) × (Nat → Nat) × Nat) => match u with | ⟨m1, p1, k1⟩ => chQ M P kn (pGrudge x y z) r m1 p1 k1) (WB G (va_A [(z0, .inr (6, [.ref z1, .ref z2, .int (nI kn), .ref z3, .int (nI ik), .ref z4, .int (nI ln), .ref z5, .int (nI lo)])), (z1, .inl (G.2 0, 404, .inl (nA M))), (z2, .inl (G.2 0, 808, .inl (nA P)))] sz) (fun u : (Nat → Nat) × (Nat → Nat) × Nat => match u with | ⟨m1, p1, k1⟩ => [(z0, .inr (6, [.ref z1, .ref z2, .int (nI k1), .ref z3, .int (nI ik), .ref z4, .int (nI ln), .ref z5, .int (nI lo)])), (z1, .inl (G.2 0, 404, .inl (nA m1))), (z2, .inl (G.2 0, 808, .inl (nA p1)))])) (va_A [(z0, .inr (6, [.ref z1, .ref z2, .int (nI kn), .ref z3, .int (nI ik), .ref z4, .int (nI ln), .ref z5, .int (nI lo)])), (z1, .inl (G.2 0, 404, .inl (nA M))), (z2, .inl (G.2 0, 808, .inl (nA P)))] sz)) 0 0 (va_A [(z0, .inr (6, [.ref z1, .ref z2, .int (nI kn), .ref z3, .int (nI ik), .ref z4, .int (nI ln), .ref z5, .int (nI lo)])), (z1, .inl (G.2 0, 404, .inl (nA M))), (z2, .inl (G.2 0, 808, .inl (nA P)))] sz) := wrM (Qf := fun AA => va_Qi (fun (r : Int32) (u : (Nat → Nat) × (Nat → Nat) × Nat) => match u with | ⟨m1, p1, k1⟩ => chQ M P kn (pGrudge x y z) r m1 p1 k1) (WB G AA (fun u : (Nat → Nat) × (Nat → Nat) × Nat => match u with | ⟨m1, p1, k1⟩ => [(z0, .inr (6, [.ref z1, .ref z2, .int (nI k1), .ref z3, .int (nI ik), .ref z4, .int (nI ln), .ref z5, .int (nI lo)])), (z1, .inl (G.2 0, 404, .inl (nA m1))), (z2, .inl (G.2 0, 808, .inl (nA p1)))])) AA) (C := RX6) rfl (by decide) rfl (Nat.le_of_ble_eq_true rfl) (fun pX eX sX mX bX meX cX ls AA hx hb hr hts hown hlk hml hin hP hK hD hAA hS hl => by
  have hl : lv_has ls 4 [(0, .ref z0), (1, .int x), (2, .int y), (3, .int z)] := hl
  refine lv_iload_n hx hb dX6_grudge_0 rfl (lv_at hl 1 rfl) ?_
  refine rcS (As := [.int x]) ⟨hx, hb, hml, hown, hts⟩ (c_X6_isCousin l x) (va_cwS 1 hts gX6_grudge_X6_isCousin rfl rfl rfl (by decide +kernel) ⟨Nat.le_of_ble_eq_true rfl, Nat.le_of_ble_eq_true rfl⟩) rfl hl.1 rfl (Nat.le_of_ble_eq_true rfl) dX6_grudge_1 ⟨Nat.zero_le _, Nat.zero_le _⟩ ?_
  refine br_eqb (tgt := 14) hx hb dX6_grudge_4 (by decide) (fun h1 => ?_) (fun h1 => ?_)
  · skip
    refine lv_iconst (v := (-1)) hx hb dX6_grudge_14 (by decide +kernel) ?_
    exact wret hx hb hr hlk hK hS ((M, P, kn)) hP hD (by have e : pGrudge x y z = .inl (-1) := (by unfold pGrudge; first | rw [if_neg (fun q => absurd q.1 (by assumption))] | rw [if_neg (fun q => absurd q.2 (by assumption))]); rw [e]; exact chQ_l _ _ _ _) dX6_grudge_15
  · skip
    refine lv_iload_n hx hb dX6_grudge_7 rfl (lv_at hl 2 rfl) ?_
    refine rcS (As := [.int y]) ⟨hx, hb, hml, hown, hts⟩ (c_X6_isCousin l y) (va_cwS 1 hts gX6_grudge_X6_isCousin rfl rfl rfl (by decide +kernel) ⟨Nat.le_of_ble_eq_true rfl, Nat.le_of_ble_eq_true rfl⟩) rfl hl.1 rfl (Nat.le_of_ble_eq_true rfl) dX6_grudge_8 ⟨Nat.zero_le _, Nat.zero_le _⟩ ?_
    refine br_neb (tgt := 16) hx hb dX6_grudge_11 (by decide) (fun h2 => ?_) (fun h2 => ?_)
    · skip
      refine lv_iload_n hx hb dX6_grudge_16 rfl (lv_at hl 1 rfl) ?_
      refine lv_iload_n hx hb dX6_grudge_17 rfl (lv_at hl 2 rfl) ?_
      refine lv_icmp_eq (tgt := 49) hx hb dX6_grudge_18 (by decide) (fun h3 => ?_) (fun h3 => ?_)
      · skip
        refine lv_bipush (v := (-2)) hx hb dX6_grudge_49 (by decide +kernel) ?_
        exact wret hx hb hr hlk hK hS ((M, P, kn)) hP hD (by have e : pGrudge x y z = .inl (-2) := (by unfold pGrudge; rw [if_pos ⟨by assumption, by assumption⟩]; first | rw [if_neg (fun q => absurd (by assumption) q.1)] | rw [if_neg (fun q => absurd q.2 (by assumption))]); rw [e]; exact chQ_l _ _ _ _) dX6_grudge_51
      · skip
        refine lv_iload_n hx hb dX6_grudge_21 rfl (lv_at hl 3 rfl) ?_
        refine nr_const (v := 0) hx hb dX6_grudge_22 rfl ?_
        refine nr_bi (v := 9) hx hb dX6_grudge_23 (by decide +kernel) ?_
        refine rcS (As := [.int z, .int (nI 0), .int (nI 9)]) ⟨hx, hb, hml, hown, hts⟩ (c_X6_in l z (nI 0) (nI 9)) (va_cwS 3 hts gX6_grudge_X6_in rfl rfl rfl (by decide +kernel) ⟨Nat.le_of_ble_eq_true rfl, Nat.le_of_ble_eq_true rfl⟩) rfl hl.1 rfl (Nat.le_of_ble_eq_true rfl) dX6_grudge_25 ⟨Nat.zero_le _, Nat.zero_le _⟩ ?_
        refine br_eqb (tgt := 49) hx hb dX6_grudge_28 (by decide) (fun h4 => ?_) (fun h4 => ?_)
        · skip
          refine lv_bipush (v := (-2)) hx hb dX6_grudge_49 (by decide +kernel) ?_
          exact wret hx hb hr hlk hK hS ((M, P, kn)) hP hD (by have e : pGrudge x y z = .inl (-2) := (by unfold pGrudge; rw [if_pos ⟨by assumption, by assumption⟩]; first | rw [if_neg (fun q => absurd (by assumption) q.1)] | rw [if_neg (fun q => absurd q.2 (by assumption))]); rw [e]; exact chQ_l _ _ _ _) dX6_grudge_51
        · skip
          obtain ⟨a, hr_a, rfl⟩ := rg_of (x := x) (n := 6) (by assumption) (by decide)
          obtain ⟨b, hr_b, rfl⟩ := rg_of (x := y) (n := 6) (by assumption) (by decide)
          obtain ⟨d, hr_d, rfl⟩ := rg_of (x := z) (n := 9) (by assumption) (by decide)
          have hl : lv_has ls 4 [(0, .ref z0), (1, .int (nI a)), (2, .int (nI b)), (3, .int (nI d))] := hl
          refine lv_aload_n hx hb dX6_grudge_31 rfl (lv_at hl 0 rfl) ?_
          refine nr_si (v := 148) hx hb dX6_grudge_32 (by decide +kernel) ?_
          refine nr_bi (v := 7) hx hb dX6_grudge_35 (by decide +kernel) ?_
          refine lv_iload_n hx hb dX6_grudge_37 rfl (lv_at hl 1 rfl) ?_
          refine nr_mul hx hb dX6_grudge_38 ?_
          refine nr_add hx hb dX6_grudge_39 ?_
          refine lv_iload_n hx hb dX6_grudge_40 rfl (lv_at hl 2 rfl) ?_
          refine nr_add hx hb dX6_grudge_41 ?_
          refine lv_iload_n hx hb dX6_grudge_42 rfl (lv_at hl 3 rfl) ?_
          refine wcVi (As := [.int (nI ((148 + (7 * a)) + b)), .int (nI d)]) (ws := [(z0, .inr (6, [.ref z1, .ref z2, .int (nI kn), .ref z3, .int (nI ik), .ref z4, .int (nI ln), .ref z5, .int (nI lo)])), (z1, .inl (G.2 0, 404, .inl (nA M))), (z2, .inl (G.2 0, 808, .inl (nA P)))]) (wc := [(z0, .inr (6, [.ref z1, .ref z2, .int (nI kn), .ref z3, .int (nI ik), .ref z4, .int (nI ln), .ref z5, .int (nI lo)])), (z1, .inl (G.2 0, 404, .inl (nA M))), (z2, .inl (G.2 0, 808, .inl (nA P)))]) (wr := []) (wn := fun u => match u with | ⟨u0, u1, u2⟩ => [(z0, .inr (6, [.ref z1, .ref z2, .int (nI u2), .ref z3, .int (nI ik), .ref z4, .int (nI ln), .ref z5, .int (nI lo)])), (z1, .inl (G.2 0, 404, .inl (nA u0))), (z2, .inl (G.2 0, 808, .inl (nA u1)))]) ⟨hx, hb, hml, hown, hts⟩ (c_X6_changes l G z0 z1 z2 kn z3 ik z4 ln z5 lo M P ((148 + (7 * a)) + b) d (by omega) (by omega) (by omega) (by have := h0.2.2.2.1 (7 * a + b) (by omega); rw [show 148 + (7 * a + b) = 148 + 7 * a + b by omega] at this; omega) _) (cwV 2 hts gX6_grudge_X6_changes rfl rfl rfl (by decide +kernel) ⟨Nat.le_of_ble_eq_true rfl, Nat.le_of_ble_eq_true rfl⟩) hK hP hD hS hAA [0, 1, 2] [] [0, 1, 2] rfl rfl rfl rfl (by decide) rfl (fun _ => rfl) 6 0 rfl rfl rfl hl.1 rfl (Nat.le_of_ble_eq_true rfl) dX6_grudge_43 ⟨by first | exact Nat.le_of_ble_eq_true rfl | omega, by first | exact Nat.le_of_ble_eq_true rfl | omega⟩ (fun rr9 uu H locs hw8 hP hD hS => ?_)
          obtain ⟨m1_5, p1_6, k1_7⟩ := uu
          have hP : va_P G.1 vwCl [(z0, .inr (6, [.ref z1, .ref z2, .int (nI k1_7), .ref z3, .int (nI ik), .ref z4, .int (nI ln), .ref z5, .int (nI lo)])), (z1, .inl (G.2 0, 404, .inl (nA m1_5))), (z2, .inl (G.2 0, 808, .inl (nA p1_6)))] _ := hP
          have hD : va_D AA [(z0, .inr (6, [.ref z1, .ref z2, .int (nI k1_7), .ref z3, .int (nI ik), .ref z4, .int (nI ln), .ref z5, .int (nI lo)])), (z1, .inl (G.2 0, 404, .inl (nA m1_5))), (z2, .inl (G.2 0, 808, .inl (nA p1_6)))] := hD
          refine lv_goto (tgt := 51) hx hb dX6_grudge_46 (by decide) ?_
          exact wret hx hb hr hlk hK hS ((m1_5, p1_6, k1_7)) hP hD (by have e : pGrudge (nI a) (nI b) (nI d) = .inr (148 + 7 * a + b, d) := (by unfold pGrudge; rw [if_pos ⟨by assumption, by assumption⟩, if_pos ⟨by assumption, by assumption⟩, nn_n (by omega), nn_n (by omega), nn_n (by omega)]); rw [e]; exact hw8) dX6_grudge_51
    · skip
      refine lv_iconst (v := (-1)) hx hb dX6_grudge_14 (by decide +kernel) ?_
      exact wret hx hb hr hlk hK hS ((M, P, kn)) hP hD (by have e : pGrudge x y z = .inl (-1) := (by unfold pGrudge; first | rw [if_neg (fun q => absurd q.1 (by assumption))] | rw [if_neg (fun q => absurd q.2 (by assumption))]); rw [e]; exact chQ_l _ _ _ _) dX6_grudge_15)

set_option maxHeartbeats 4000000 in
set_option maxRecDepth 100000 in
theorem c_X6_give (l : Launch) (G : gG) (z0 : Nat) (z1 : Nat) (z2 : Nat) (kn : Nat) (z3 : Nat) (ik : Nat) (z4 : Nat) (ln : Nat) (z5 : Nat) (lo : Nat) (M : Nat → Nat) (P : Nat → Nat) (x : Int32) (y : Int32) (hk : kn ≤ 4) (h0 : ok M) (sz : Nat) : Met l yX6_give wsX6_give ({ frames := 2, cells := 0, slots := 0, locals := 44 } : Room) (WR G [(z0, .inr (6, [.ref z1, .ref z2, .int (nI kn), .ref z3, .int (nI ik), .ref z4, .int (nI ln), .ref z5, .int (nI lo)])), (z1, .inl (G.2 0, 404, .inl (nA M))), (z2, .inl (G.2 0, 808, .inl (nA P)))] sz [.ref z0, .int x, .int y]) (va_Qi (fun (r : Int32) (u : (Nat → Nat) × (Nat → Nat) × Nat) => match u with | ⟨m1, p1, k1⟩ => chQ M P kn (pGive x y) r m1 p1 k1) (WB G (va_A [(z0, .inr (6, [.ref z1, .ref z2, .int (nI kn), .ref z3, .int (nI ik), .ref z4, .int (nI ln), .ref z5, .int (nI lo)])), (z1, .inl (G.2 0, 404, .inl (nA M))), (z2, .inl (G.2 0, 808, .inl (nA P)))] sz) (fun u : (Nat → Nat) × (Nat → Nat) × Nat => match u with | ⟨m1, p1, k1⟩ => [(z0, .inr (6, [.ref z1, .ref z2, .int (nI k1), .ref z3, .int (nI ik), .ref z4, .int (nI ln), .ref z5, .int (nI lo)])), (z1, .inl (G.2 0, 404, .inl (nA m1))), (z2, .inl (G.2 0, 808, .inl (nA p1)))])) (va_A [(z0, .inr (6, [.ref z1, .ref z2, .int (nI kn), .ref z3, .int (nI ik), .ref z4, .int (nI ln), .ref z5, .int (nI lo)])), (z1, .inl (G.2 0, 404, .inl (nA M))), (z2, .inl (G.2 0, 808, .inl (nA P)))] sz)) 0 0 (va_A [(z0, .inr (6, [.ref z1, .ref z2, .int (nI kn), .ref z3, .int (nI ik), .ref z4, .int (nI ln), .ref z5, .int (nI lo)])), (z1, .inl (G.2 0, 404, .inl (nA M))), (z2, .inl (G.2 0, 808, .inl (nA P)))] sz) := wrM (Qf := fun AA => va_Qi (fun (r : Int32) (u : (Nat → Nat) × (Nat → Nat) × Nat) => match u with | ⟨m1, p1, k1⟩ => chQ M P kn (pGive x y) r m1 p1 k1) (WB G AA (fun u : (Nat → Nat) × (Nat → Nat) × Nat => match u with | ⟨m1, p1, k1⟩ => [(z0, .inr (6, [.ref z1, .ref z2, .int (nI k1), .ref z3, .int (nI ik), .ref z4, .int (nI ln), .ref z5, .int (nI lo)])), (z1, .inl (G.2 0, 404, .inl (nA m1))), (z2, .inl (G.2 0, 808, .inl (nA p1)))])) AA) (C := RX6) rfl (by decide) rfl (Nat.le_of_ble_eq_true rfl) (fun pX eX sX mX bX meX cX ls AA hx hb hr hts hown hlk hml hin hP hK hD hAA hS hl => by
  have hl : lv_has ls 3 [(0, .ref z0), (1, .int x), (2, .int y)] := hl
  refine lv_iload_n hx hb dX6_give_0 rfl (lv_at hl 1 rfl) ?_
  refine rcS (As := [.int x]) ⟨hx, hb, hml, hown, hts⟩ (c_X6_isPlot l x) (va_cwS 1 hts gX6_give_X6_isPlot rfl rfl rfl (by decide +kernel) ⟨Nat.le_of_ble_eq_true rfl, Nat.le_of_ble_eq_true rfl⟩) rfl hl.1 rfl (Nat.le_of_ble_eq_true rfl) dX6_give_1 ⟨Nat.zero_le _, Nat.zero_le _⟩ ?_
  refine br_eqb (tgt := 29) hx hb dX6_give_4 (by decide) (fun h1 => ?_) (fun h1 => ?_)
  · skip
    refine lv_iconst (v := (-1)) hx hb dX6_give_29 (by decide +kernel) ?_
    exact wret hx hb hr hlk hK hS ((M, P, kn)) hP hD (by have e : pGive x y = .inl (-1) := (by unfold pGive; first | rw [if_neg (fun q => absurd q.1 (by assumption))] | rw [if_neg (fun q => absurd q.2 (by assumption))]); rw [e]; exact chQ_l _ _ _ _) dX6_give_30
  · skip
    refine lv_iload_n hx hb dX6_give_7 rfl (lv_at hl 2 rfl) ?_
    refine nr_const (v := 0) hx hb dX6_give_8 rfl ?_
    refine nr_bi (v := 7) hx hb dX6_give_9 (by decide +kernel) ?_
    refine rcS (As := [.int y, .int (nI 0), .int (nI 7)]) ⟨hx, hb, hml, hown, hts⟩ (c_X6_in l y (nI 0) (nI 7)) (va_cwS 3 hts gX6_give_X6_in rfl rfl rfl (by decide +kernel) ⟨Nat.le_of_ble_eq_true rfl, Nat.le_of_ble_eq_true rfl⟩) rfl hl.1 rfl (Nat.le_of_ble_eq_true rfl) dX6_give_11 ⟨Nat.zero_le _, Nat.zero_le _⟩ ?_
    refine br_eqb (tgt := 29) hx hb dX6_give_14 (by decide) (fun h2 => ?_) (fun h2 => ?_)
    · skip
      refine lv_iconst (v := (-1)) hx hb dX6_give_29 (by decide +kernel) ?_
      exact wret hx hb hr hlk hK hS ((M, P, kn)) hP hD (by have e : pGive x y = .inl (-1) := (by unfold pGive; first | rw [if_neg (fun q => absurd q.1 (by assumption))] | rw [if_neg (fun q => absurd q.2 (by assumption))]); rw [e]; exact chQ_l _ _ _ _) dX6_give_30
    · skip
      obtain ⟨a, hr_a, rfl⟩ := rg_of (x := x) (n := 23) (by assumption) (by decide)
      obtain ⟨b, hr_b, rfl⟩ := rg_of (x := y) (n := 7) (by assumption) (by decide)
      have hl : lv_has ls 3 [(0, .ref z0), (1, .int (nI a)), (2, .int (nI b))] := hl
      refine lv_aload_n hx hb dX6_give_17 rfl (lv_at hl 0 rfl) ?_
      refine nr_bi (v := 96) hx hb dX6_give_18 (by decide +kernel) ?_
      refine lv_iload_n hx hb dX6_give_20 rfl (lv_at hl 1 rfl) ?_
      refine nr_add hx hb dX6_give_21 ?_
      refine lv_iload_n hx hb dX6_give_22 rfl (lv_at hl 2 rfl) ?_
      refine wcVi (As := [.int (nI (96 + a)), .int (nI b)]) (ws := [(z0, .inr (6, [.ref z1, .ref z2, .int (nI kn), .ref z3, .int (nI ik), .ref z4, .int (nI ln), .ref z5, .int (nI lo)])), (z1, .inl (G.2 0, 404, .inl (nA M))), (z2, .inl (G.2 0, 808, .inl (nA P)))]) (wc := [(z0, .inr (6, [.ref z1, .ref z2, .int (nI kn), .ref z3, .int (nI ik), .ref z4, .int (nI ln), .ref z5, .int (nI lo)])), (z1, .inl (G.2 0, 404, .inl (nA M))), (z2, .inl (G.2 0, 808, .inl (nA P)))]) (wr := []) (wn := fun u => match u with | ⟨u0, u1, u2⟩ => [(z0, .inr (6, [.ref z1, .ref z2, .int (nI u2), .ref z3, .int (nI ik), .ref z4, .int (nI ln), .ref z5, .int (nI lo)])), (z1, .inl (G.2 0, 404, .inl (nA u0))), (z2, .inl (G.2 0, 808, .inl (nA u1)))]) ⟨hx, hb, hml, hown, hts⟩ (c_X6_changes l G z0 z1 z2 kn z3 ik z4 ln z5 lo M P (96 + a) b (by omega) (by omega) (by omega) (by have := h0.2.1 a (by omega); omega) _) (cwV 2 hts gX6_give_X6_changes rfl rfl rfl (by decide +kernel) ⟨Nat.le_of_ble_eq_true rfl, Nat.le_of_ble_eq_true rfl⟩) hK hP hD hS hAA [0, 1, 2] [] [0, 1, 2] rfl rfl rfl rfl (by decide) rfl (fun _ => rfl) 6 0 rfl rfl rfl hl.1 rfl (Nat.le_of_ble_eq_true rfl) dX6_give_23 ⟨by first | exact Nat.le_of_ble_eq_true rfl | omega, by first | exact Nat.le_of_ble_eq_true rfl | omega⟩ (fun rr7 uu H locs hw6 hP hD hS => ?_)
      obtain ⟨m1_3, p1_4, k1_5⟩ := uu
      have hP : va_P G.1 vwCl [(z0, .inr (6, [.ref z1, .ref z2, .int (nI k1_5), .ref z3, .int (nI ik), .ref z4, .int (nI ln), .ref z5, .int (nI lo)])), (z1, .inl (G.2 0, 404, .inl (nA m1_3))), (z2, .inl (G.2 0, 808, .inl (nA p1_4)))] _ := hP
      have hD : va_D AA [(z0, .inr (6, [.ref z1, .ref z2, .int (nI k1_5), .ref z3, .int (nI ik), .ref z4, .int (nI ln), .ref z5, .int (nI lo)])), (z1, .inl (G.2 0, 404, .inl (nA m1_3))), (z2, .inl (G.2 0, 808, .inl (nA p1_4)))] := hD
      refine lv_goto (tgt := 30) hx hb dX6_give_26 (by decide) ?_
      exact wret hx hb hr hlk hK hS ((m1_3, p1_4, k1_5)) hP hD (by have e : pGive (nI a) (nI b) = .inr (96 + a, b) := (by unfold pGive; rw [if_pos ⟨by assumption, by assumption⟩, nn_n (by omega), nn_n (by omega)]); rw [e]; exact hw6) dX6_give_30)
