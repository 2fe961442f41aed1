set_option maxHeartbeats 4000000 in
set_option maxRecDepth 100000 in
theorem c_X6_set (l : Launch) (G : gG) (z0 : Nat) (z1 : Nat) (z2 : Nat) (kn : Nat) (z3 : Nat) (ik : Nat) (z4 : Nat) (ln : Nat) (z5 : Nat) (lo : Nat) (M : Nat → Nat) (P : Nat → Nat) (x : Int32) (y : Int32) (hk : kn ≤ 4) (h0 : ok M) (sz : Nat) : Met l yX6_set wsX6_set ({ frames := 2, cells := 0, slots := 0, locals := 44 } : Room) (WR G [(z0, .inr (6, [.ref z1, .ref z2, .int (nI kn), .ref z3, .int (nI ik), .ref z4, .int (nI ln), .ref z5, .int (nI lo)])), (z1, .inl (G.2 0, 404, .inl (nA M))), (z2, .inl (G.2 0, 808, .inl (nA P)))] sz [.ref z0, .int x, .int y]) (va_Qi (fun (r : Int32) (u : (Nat → Nat) × (Nat → Nat) × Nat) => match u with | ⟨m1, p1, k1⟩ => chQ M P kn (pSet x y) r m1 p1 k1) (WB G (va_A [(z0, .inr (6, [.ref z1, .ref z2, .int (nI kn), .ref z3, .int (nI ik), .ref z4, .int (nI ln), .ref z5, .int (nI lo)])), (z1, .inl (G.2 0, 404, .inl (nA M))), (z2, .inl (G.2 0, 808, .inl (nA P)))] sz) (fun u : (Nat → Nat) × (Nat → Nat) × Nat => match u with | ⟨m1, p1, k1⟩ => [(z0, .inr (6, [.ref z1, .ref z2, .int (nI k1), .ref z3, .int (nI ik), .ref z4, .int (nI ln), .ref z5, .int (nI lo)])), (z1, .inl (G.2 0, 404, .inl (nA m1))), (z2, .inl (G.2 0, 808, .inl (nA p1)))])) (va_A [(z0, .inr (6, [.ref z1, .ref z2, .int (nI kn), .ref z3, .int (nI ik), .ref z4, .int (nI ln), .ref z5, .int (nI lo)])), (z1, .inl (G.2 0, 404, .inl (nA M))), (z2, .inl (G.2 0, 808, .inl (nA P)))] sz)) 0 0 (va_A [(z0, .inr (6, [.ref z1, .ref z2, .int (nI kn), .ref z3, .int (nI ik), .ref z4, .int (nI ln), .ref z5, .int (nI lo)])), (z1, .inl (G.2 0, 404, .inl (nA M))), (z2, .inl (G.2 0, 808, .inl (nA P)))] sz) := wrM (Qf := fun AA => va_Qi (fun (r : Int32) (u : (Nat → Nat) × (Nat → Nat) × Nat) => match u with | ⟨m1, p1, k1⟩ => chQ M P kn (pSet x y) r m1 p1 k1) (WB G AA (fun u : (Nat → Nat) × (Nat → Nat) × Nat => match u with | ⟨m1, p1, k1⟩ => [(z0, .inr (6, [.ref z1, .ref z2, .int (nI k1), .ref z3, .int (nI ik), .ref z4, .int (nI ln), .ref z5, .int (nI lo)])), (z1, .inl (G.2 0, 404, .inl (nA m1))), (z2, .inl (G.2 0, 808, .inl (nA p1)))])) AA) (C := RX6) rfl (by decide) rfl (Nat.le_of_ble_eq_true rfl) (fun pX eX sX mX bX meX cX ls AA hx hb hr hts hown hlk hml hin hP hK hD hAA hS hl => by
  have hl : lv_has ls 4 [(0, .ref z0), (1, .int x), (2, .int y)] := hl
  refine lv_iload_n hx hb dX6_set_0 rfl (lv_at hl 1 rfl) ?_
  refine nr_const (v := 0) hx hb dX6_set_1 rfl ?_
  refine nr_const (v := 1) hx hb dX6_set_2 rfl ?_
  refine rcS (As := [.int x, .int (nI 0), .int (nI 1)]) ⟨hx, hb, hml, hown, hts⟩ (c_X6_in l x (nI 0) (nI 1)) (va_cwS 3 hts gX6_set_X6_in rfl rfl rfl (by decide +kernel) ⟨Nat.le_of_ble_eq_true rfl, Nat.le_of_ble_eq_true rfl⟩) rfl hl.1 rfl (Nat.le_of_ble_eq_true rfl) dX6_set_3 ⟨Nat.zero_le _, Nat.zero_le _⟩ ?_
  refine br_neb (tgt := 11) hx hb dX6_set_6 (by decide) (fun h1 => ?_) (fun h1 => ?_)
  · skip
    refine lv_iload_n hx hb dX6_set_11 rfl (lv_at hl 1 rfl) ?_
    refine lv_if_ne (tgt := 24) hx hb dX6_set_12 (by decide) (fun h2 => ?_) (fun h2 => ?_)
    · skip
      refine lv_iload_n hx hb dX6_set_24 rfl (lv_at hl 2 rfl) ?_
      refine nr_const (v := 1) hx hb dX6_set_25 rfl ?_
      refine nr_bi (v := 10) hx hb dX6_set_26 (by decide +kernel) ?_
      refine rcS (As := [.int y, .int (nI 1), .int (nI 10)]) ⟨hx, hb, hml, hown, hts⟩ (c_X6_in l y (nI 1) (nI 10)) (va_cwS 3 hts gX6_set_X6_in rfl rfl rfl (by decide +kernel) ⟨Nat.le_of_ble_eq_true rfl, Nat.le_of_ble_eq_true rfl⟩) rfl hl.1 rfl (Nat.le_of_ble_eq_true rfl) dX6_set_28 ⟨Nat.zero_le _, Nat.zero_le _⟩ ?_
      refine lv_istore_n (lv' := [(3, .int (nI (bb (¬ (y < (nI 1)) ∧ ¬ ((nI 10) < y))))), (0, .ref z0), (1, .int x), (2, .int y)]) hx hb dX6_set_31 rfl hl (by decide) rfl (fun ls hl => ?_)
      refine lv_iload_n hx hb dX6_set_32 rfl (lv_at hl 0 rfl) ?_
      refine br_eqb (tgt := 49) hx hb dX6_set_33 (by decide) (fun h3 => ?_) (fun h3 => ?_)
      · skip
        refine lv_bipush (v := (-2)) hx hb dX6_set_49 (by decide +kernel) ?_
        exact wret hx hb hr hlk hK hS ((M, P, kn)) hP hD (by have e : pSet x y = .inl (-2) := (by unfold pSet; rw [if_pos (by assumption), if_neg (by intro q; rcases q with ⟨q1, q2⟩ | ⟨q1, q2⟩ <;> first | exact absurd q2 (by assumption) | exact absurd q1 (by assumption) | exact absurd (by assumption) q1)]); rw [e]; exact chQ_l _ _ _ _) dX6_set_51
      · skip
        have hset : (x = 0 ∧ rg y 1) ∨ (¬ x = 0 ∧ (¬ (y < nI 1) ∧ ¬ (nI 10 < y))) := (by first | exact Or.inl ⟨by assumption, by assumption⟩ | exact Or.inr ⟨by assumption, by assumption⟩)
        obtain ⟨b, hr_b, rfl⟩ := set_n hset
        obtain ⟨a, hr_a, rfl⟩ := rg_of (x := x) (n := 1) (by assumption) (by decide)
        have hl : lv_has ls 4 [(0, .ref z0), (1, .int (nI a)), (2, .int (nI b))] := lv_sub hl [1, 2, 3] rfl
        refine lv_aload_n hx hb dX6_set_36 rfl (lv_at hl 0 rfl) ?_
        refine nr_si (v := 197) hx hb dX6_set_37 (by decide +kernel) ?_
        refine lv_iload_n hx hb dX6_set_40 rfl (lv_at hl 1 rfl) ?_
        refine nr_add hx hb dX6_set_41 ?_
        refine lv_iload_n hx hb dX6_set_42 rfl (lv_at hl 2 rfl) ?_
        refine wcVi (As := [.int (nI (197 + a)), .int (nI b)]) (ws := [(z0, .inr (6, [.ref z1, .ref z2, .int (nI kn), .ref z3, .int (nI ik), .ref z4, .int (nI ln), .ref z5, .int (nI lo)])), (z1, .inl (G.2 0, 404, .inl (nA M))), (z2, .inl (G.2 0, 808, .inl (nA P)))]) (wc := [(z0, .inr (6, [.ref z1, .ref z2, .int (nI kn), .ref z3, .int (nI ik), .ref z4, .int (nI ln), .ref z5, .int (nI lo)])), (z1, .inl (G.2 0, 404, .inl (nA M))), (z2, .inl (G.2 0, 808, .inl (nA P)))]) (wr := []) (wn := fun u => match u with | ⟨u0, u1, u2⟩ => [(z0, .inr (6, [.ref z1, .ref z2, .int (nI u2), .ref z3, .int (nI ik), .ref z4, .int (nI ln), .ref z5, .int (nI lo)])), (z1, .inl (G.2 0, 404, .inl (nA u0))), (z2, .inl (G.2 0, 808, .inl (nA u1)))]) ⟨hx, hb, hml, hown, hts⟩ (c_X6_changes l G z0 z1 z2 kn z3 ik z4 ln z5 lo M P (197 + a) b (by omega) (by omega) (by omega) (by rcases (show a = 0 ∨ a = 1 by omega) with rfl | rfl; exact Nat.lt_trans h0.2.2.2.2.1 (by decide); exact Nat.lt_trans h0.2.2.2.2.2.2 (by decide)) _) (cwV 2 hts gX6_set_X6_changes rfl rfl rfl (by decide +kernel) ⟨Nat.le_of_ble_eq_true rfl, Nat.le_of_ble_eq_true rfl⟩) hK hP hD hS hAA [0, 1, 2] [] [0, 1, 2] rfl rfl rfl rfl (by decide) rfl (fun _ => rfl) 6 0 rfl rfl rfl hl.1 rfl (Nat.le_of_ble_eq_true rfl) dX6_set_43 ⟨by first | exact Nat.le_of_ble_eq_true rfl | omega, by first | exact Nat.le_of_ble_eq_true rfl | omega⟩ (fun rr8 uu H locs hw7 hP hD hS => ?_)
        obtain ⟨m1_4, p1_5, k1_6⟩ := uu
        have hP : va_P G.1 vwCl [(z0, .inr (6, [.ref z1, .ref z2, .int (nI k1_6), .ref z3, .int (nI ik), .ref z4, .int (nI ln), .ref z5, .int (nI lo)])), (z1, .inl (G.2 0, 404, .inl (nA m1_4))), (z2, .inl (G.2 0, 808, .inl (nA p1_5)))] _ := hP
        have hD : va_D AA [(z0, .inr (6, [.ref z1, .ref z2, .int (nI k1_6), .ref z3, .int (nI ik), .ref z4, .int (nI ln), .ref z5, .int (nI lo)])), (z1, .inl (G.2 0, 404, .inl (nA m1_4))), (z2, .inl (G.2 0, 808, .inl (nA p1_5)))] := hD
        refine lv_goto (tgt := 51) hx hb dX6_set_46 (by decide) ?_
        exact wret hx hb hr hlk hK hS ((m1_4, p1_5, k1_6)) hP hD (by have e : pSet (nI a) (nI b) = .inr (197 + a, b) := (by unfold pSet; rw [if_pos (by assumption), if_pos hset, nn_n (by omega), nn_n (by omega)]); rw [e]; exact hw7) dX6_set_51
    · skip
      refine lv_iload_n hx hb dX6_set_15 rfl (lv_at hl 2 rfl) ?_
      refine nr_const (v := 0) hx hb dX6_set_16 rfl ?_
      refine nr_const (v := 1) hx hb dX6_set_17 rfl ?_
      refine rcS (As := [.int y, .int (nI 0), .int (nI 1)]) ⟨hx, hb, hml, hown, hts⟩ (c_X6_in l y (nI 0) (nI 1)) (va_cwS 3 hts gX6_set_X6_in rfl rfl rfl (by decide +kernel) ⟨Nat.le_of_ble_eq_true rfl, Nat.le_of_ble_eq_true rfl⟩) rfl hl.1 rfl (Nat.le_of_ble_eq_true rfl) dX6_set_18 ⟨Nat.zero_le _, Nat.zero_le _⟩ ?_
      refine lv_goto (tgt := 31) hx hb dX6_set_21 (by decide) ?_
      refine lv_istore_n (lv' := [(3, .int (nI (bb (¬ (y < (nI 0)) ∧ ¬ ((nI 1) < y))))), (0, .ref z0), (1, .int x), (2, .int y)]) hx hb dX6_set_31 rfl hl (by decide) rfl (fun ls hl => ?_)
      refine lv_iload_n hx hb dX6_set_32 rfl (lv_at hl 0 rfl) ?_
      refine br_eqb (tgt := 49) hx hb dX6_set_33 (by decide) (fun h9 => ?_) (fun h9 => ?_)
      · skip
        refine lv_bipush (v := (-2)) hx hb dX6_set_49 (by decide +kernel) ?_
        exact wret hx hb hr hlk hK hS ((M, P, kn)) hP hD (by have e : pSet x y = .inl (-2) := (by unfold pSet; rw [if_pos (by assumption), if_neg (by intro q; rcases q with ⟨q1, q2⟩ | ⟨q1, q2⟩ <;> first | exact absurd q2 (by assumption) | exact absurd q1 (by assumption) | exact absurd (by assumption) q1)]); rw [e]; exact chQ_l _ _ _ _) dX6_set_51
      · skip
        have hset : (x = 0 ∧ rg y 1) ∨ (¬ x = 0 ∧ (¬ (y < nI 1) ∧ ¬ (nI 10 < y))) := (by first | exact Or.inl ⟨by assumption, by assumption⟩ | exact Or.inr ⟨by assumption, by assumption⟩)
        obtain ⟨b, hr_b, rfl⟩ := set_n hset
        obtain ⟨a, hr_a, rfl⟩ := rg_of (x := x) (n := 1) (by assumption) (by decide)
        have hl : lv_has ls 4 [(0, .ref z0), (1, .int (nI a)), (2, .int (nI b))] := lv_sub hl [1, 2, 3] rfl
        refine lv_aload_n hx hb dX6_set_36 rfl (lv_at hl 0 rfl) ?_
        refine nr_si (v := 197) hx hb dX6_set_37 (by decide +kernel) ?_
        refine lv_iload_n hx hb dX6_set_40 rfl (lv_at hl 1 rfl) ?_
        refine nr_add hx hb dX6_set_41 ?_
        refine lv_iload_n hx hb dX6_set_42 rfl (lv_at hl 2 rfl) ?_
        refine wcVi (As := [.int (nI (197 + a)), .int (nI b)]) (ws := [(z0, .inr (6, [.ref z1, .ref z2, .int (nI kn), .ref z3, .int (nI ik), .ref z4, .int (nI ln), .ref z5, .int (nI lo)])), (z1, .inl (G.2 0, 404, .inl (nA M))), (z2, .inl (G.2 0, 808, .inl (nA P)))]) (wc := [(z0, .inr (6, [.ref z1, .ref z2, .int (nI kn), .ref z3, .int (nI ik), .ref z4, .int (nI ln), .ref z5, .int (nI lo)])), (z1, .inl (G.2 0, 404, .inl (nA M))), (z2, .inl (G.2 0, 808, .inl (nA P)))]) (wr := []) (wn := fun u => match u with | ⟨u0, u1, u2⟩ => [(z0, .inr (6, [.ref z1, .ref z2, .int (nI u2), .ref z3, .int (nI ik), .ref z4, .int (nI ln), .ref z5, .int (nI lo)])), (z1, .inl (G.2 0, 404, .inl (nA u0))), (z2, .inl (G.2 0, 808, .inl (nA u1)))]) ⟨hx, hb, hml, hown, hts⟩ (c_X6_changes l G z0 z1 z2 kn z3 ik z4 ln z5 lo M P (197 + a) b (by omega) (by omega) (by omega) (by rcases (show a = 0 ∨ a = 1 by omega) with rfl | rfl; exact Nat.lt_trans h0.2.2.2.2.1 (by decide); exact Nat.lt_trans h0.2.2.2.2.2.2 (by decide)) _) (cwV 2 hts gX6_set_X6_changes rfl rfl rfl (by decide +kernel) ⟨Nat.le_of_ble_eq_true rfl, Nat.le_of_ble_eq_true rfl⟩) hK hP hD hS hAA [0, 1, 2] [] [0, 1, 2] rfl rfl rfl rfl (by decide) rfl (fun _ => rfl) 6 0 rfl rfl rfl hl.1 rfl (Nat.le_of_ble_eq_true rfl) dX6_set_43 ⟨by first | exact Nat.le_of_ble_eq_true rfl | omega, by first | exact Nat.le_of_ble_eq_true rfl | omega⟩ (fun rr14 uu H locs hw13 hP hD hS => ?_)
        obtain ⟨m1_10, p1_11, k1_12⟩ := uu
        have hP : va_P G.1 vwCl [(z0, .inr (6, [.ref z1, .ref z2, .int (nI k1_12), .ref z3, .int (nI ik), .ref z4, .int (nI ln), .ref z5, .int (nI lo)])), (z1, .inl (G.2 0, 404, .inl (nA m1_10))), (z2, .inl (G.2 0, 808, .inl (nA p1_11)))] _ := hP
        have hD : va_D AA [(z0, .inr (6, [.ref z1, .ref z2, .int (nI k1_12), .ref z3, .int (nI ik), .ref z4, .int (nI ln), .ref z5, .int (nI lo)])), (z1, .inl (G.2 0, 404, .inl (nA m1_10))), (z2, .inl (G.2 0, 808, .inl (nA p1_11)))] := hD
        refine lv_goto (tgt := 51) hx hb dX6_set_46 (by decide) ?_
        exact wret hx hb hr hlk hK hS ((m1_10, p1_11, k1_12)) hP hD (by have e : pSet (nI a) (nI b) = .inr (197 + a, b) := (by unfold pSet; rw [if_pos (by assumption), if_pos hset, nn_n (by omega), nn_n (by omega)]); rw [e]; exact hw13) dX6_set_51
  · skip
    refine lv_iconst (v := (-1)) hx hb dX6_set_9 (by decide +kernel) ?_
    exact wret hx hb hr hlk hK hS ((M, P, kn)) hP hD (by have e : pSet x y = .inl (-1) := (by unfold pSet; rw [if_neg (by assumption)]); rw [e]; exact chQ_l _ _ _ _) dX6_set_10)

set_option maxHeartbeats 4000000 in
set_option maxRecDepth 100000 in
theorem c_X6_plotsOfm (l : Launch) (G : gG) (z0 : Nat) (z1 : Nat) (fs : List Value) (M : Nat → Nat) (hf0 : fs[0]? = some (.ref z1)) (hO : ∀ k, k < 24 → ow M 0 k < 8) : Met l yX6_plotsOf wsX6_plotsOf ({ frames := 0, cells := 0, slots := 0, locals := 0 } : Room) (RD G [(z0, .inr (6, fs)), (z1, .inl (G.2 0, 404, .inl (nA M)))] [.ref z0, .int (-1)]) (QcRead (nI (gvn M))) 0 0 noF := rdM (C := RX6) rfl (by decide) rfl (Nat.le_of_ble_eq_true rfl) (fun pX eX sX mX bX meX cX ls hx hb hr hts hown hlk hml hP hK hl => by
  have hl : lv_has ls 5 [(0, .ref z0), (1, .int (-1))] := hl
  have hF6 : ∀ w ∈ wsX60, w ∈ wsX6_plotsOf := fun _ h => (List.mem_cons_of_mem _ (List.mem_append_right _ h))
  refine nr_const (v := 0) hx hb dX6_plotsOf_0 rfl ?_
  refine lv_istore_n (lv' := [(2, .int (nI 0)), (0, .ref z0), (1, .int (-1))]) hx hb dX6_plotsOf_1 rfl hl (by decide) rfl (fun ls hl => ?_)
  refine nr_const (v := 0) hx hb dX6_plotsOf_2 rfl ?_
  refine lv_istore_n (lv' := [(3, .int (nI 0)), (2, .int (nI 0)), (0, .ref z0), (1, .int (-1))]) hx hb dX6_plotsOf_3 rfl hl (by decide) rfl (fun ls hl => ?_)
  refine loop_r (T := Nat) (nL := 5) (fun i => i ≤ 24) (fun i => 24 - i) (fun i => [(0, .ref z0), (1, .int (-1)), (2, .int (nI (sm (fun k => bb (¬ ow M 0 k = 7)) i))), (3, .int (nI i))]) ?_ 0 (lv_sub hl [2, 3, 1, 0] rfl) (by omega)
  intro i ls hl hi2 ih1
  have hi2_0 := hi2
  have hi2_0 : i ≤ 24 := hi2_0
  have hl : lv_has ls 5 [(0, .ref z0), (1, .int (-1)), (2, .int (nI (sm (fun k => bb (¬ ow M 0 k = 7)) i))), (3, .int (nI i))] := hl
  refine lv_iload_n hx hb dX6_plotsOf_4 rfl (lv_at hl 3 rfl) ?_
  refine nr_bi (v := 24) hx hb dX6_plotsOf_5 (by decide +kernel) ?_
  refine br_ige (tgt := 75) hx hb dX6_plotsOf_7 (by decide) (by omega) (by decide) (fun h3 => ?_) (fun h3 => ?_)
  · skip
    refine lv_iload_n hx hb dX6_plotsOf_75 rfl (lv_at hl 2 rfl) ?_
    exact rret hx hb hr hlk (by have e : i = 24 := (by omega); subst e; exact congrArg nI (gvn_e M)) dX6_plotsOf_76
  · skip
    refine lv_iload_n hx hb dX6_plotsOf_10 rfl (lv_at hl 1 rfl) ?_
    refine lv_if_ge (tgt := 36) hx hb dX6_plotsOf_11 (by decide) (fun h4 => ?_) (fun h4 => ?_)
    · exact absurd h4 (by decide)
    · skip
      have hb1 : M (96 + i) < 8 := by have := hO i (by omega); unfold ow at this; rwa [show 0 + 96 + i = 96 + i by omega] at this
      refine lv_aload_n hx hb dX6_plotsOf_14 rfl (lv_at hl 0 rfl) ?_
      refine va_get (D := G.1) (ci := 6) (v := .ref z1) (C := RX6) (T := TX6) (N := 9) hx hb hts hF6 hown hK hP 0 rfl rfl 0 (by decide) (hts (.fieldLink RX6 7 "CousinSharesModel" "s" "[I") (List.mem_of_getElem? (i := 1) rfl)) (fun _ h9 => h9) hf0 dX6_plotsOf_15 ?_
      refine nr_bi (v := 96) hx hb dX6_plotsOf_18 (by decide +kernel) ?_
      refine lv_iload_n hx hb dX6_plotsOf_20 rfl (lv_at hl 3 rfl) ?_
      refine nr_add hx hb dX6_plotsOf_21 ?_
      refine nr_ald hx hb hK hP 1 rfl (by omega) (by decide) dX6_plotsOf_22 ?_
      refine nr_bi (v := 7) hx hb dX6_plotsOf_23 (by decide +kernel) ?_
      refine join_v (T := Nat) (J := 54) (nL := 5) (fun v => [(0, .ref z0), (1, .int (-1)), (2, .int (nI (sm (fun k => bb (¬ ow M 0 k = 7)) i))), (3, .int (nI i))]) (fun v => [.int (nI v)]) (fun v => v = bb (¬ ((M (96 + i)) = 7))) ?_ (fun jj5 => ?_)
      · intro v ls hl hv6
        subst hv6
        refine lv_istore (lv' := [(4, .int (nI (bb (¬ ((M (96 + i)) = 7))))), (0, .ref z0), (1, .int (-1)), (2, .int (nI (sm (fun k => bb (¬ ow M 0 k = 7)) i))), (3, .int (nI i))]) hx hb dX6_plotsOf_54 hl (by decide) rfl (fun ls hl => ?_)
        refine lv_iload_n hx hb dX6_plotsOf_56 rfl (lv_at hl 3 rfl) ?_
        refine lv_iload hx hb dX6_plotsOf_57 (lv_at hl 0 rfl) ?_
        refine join_v (T := Nat) (J := 67) (nL := 5) (fun v => [(4, .int (nI (bb (¬ ((M (96 + i)) = 7))))), (0, .ref z0), (1, .int (-1)), (2, .int (nI (sm (fun k => bb (¬ ow M 0 k = 7)) i))), (3, .int (nI i))]) (fun v => [.int (nI v), .int (nI (sm (fun k => bb (¬ ow M 0 k = 7)) i))]) (fun v => v = bb (¬ ((M (96 + i)) = 7))) ?_ (fun jj7 => ?_)
        · intro v ls hl hv8
          subst hv8
          refine nr_add hx hb dX6_plotsOf_67 ?_
          refine lv_istore_n (lv' := [(2, .int (nI ((sm (fun k => bb (¬ ow M 0 k = 7)) i) + (bb (¬ ((M (96 + i)) = 7)))))), (4, .int (nI (bb (¬ ((M (96 + i)) = 7))))), (0, .ref z0), (1, .int (-1)), (3, .int (nI i))]) hx hb dX6_plotsOf_68 rfl hl (by decide) rfl (fun ls hl => ?_)
          refine nr_inc (d := 1) (v := i + 1) (lv' := [(3, .int (nI (i + 1))), (2, .int (nI ((sm (fun k => bb (¬ ow M 0 k = 7)) i) + (bb (¬ ((M (96 + i)) = 7)))))), (4, .int (nI (bb (¬ ((M (96 + i)) = 7))))), (0, .ref z0), (1, .int (-1))]) hx hb dX6_plotsOf_69 hl (k := 4) rfl rfl (by decide) rfl (fun ls hl => ?_)
          refine lv_goto (tgt := 4) hx hb dX6_plotsOf_72 (by decide) ?_
          exact ih1 (i + 1) ls (lv_sub hl [3, 4, 1, 0] rfl) (by omega) (by omega)
        · skip
          refine br_eqb (tgt := 66) hx hb dX6_plotsOf_59 (by decide) (fun h9 => ?_) (fun h9 => ?_)
          · skip
            refine nr_const (v := 0) hx hb dX6_plotsOf_66 rfl ?_
            exact jj7 0 ls (lv_sub hl [0, 1, 2, 3, 4] rfl) (bb_f h9).symm
          · skip
            refine nr_const (v := 1) hx hb dX6_plotsOf_62 rfl ?_
            refine lv_goto (tgt := 67) hx hb dX6_plotsOf_63 (by decide) ?_
            exact jj7 1 ls (lv_sub hl [0, 1, 2, 3, 4] rfl) (bb_t h9).symm
      · skip
        refine br_ieq (tgt := 32) hx hb dX6_plotsOf_25 (by decide) (by omega) (by decide) (fun h10 => ?_) (fun h10 => ?_)
        · skip
          refine nr_const (v := 0) hx hb dX6_plotsOf_32 rfl ?_
          refine lv_goto (tgt := 54) hx hb dX6_plotsOf_33 (by decide) ?_
          exact jj5 0 ls (lv_sub hl [0, 1, 2, 3] rfl) (bb_f (fun q => q h10)).symm
        · skip
          refine nr_const (v := 1) hx hb dX6_plotsOf_28 rfl ?_
          refine lv_goto (tgt := 54) hx hb dX6_plotsOf_29 (by decide) ?_
          exact jj5 1 ls (lv_sub hl [0, 1, 2, 3] rfl) (bb_t h10).symm)

set_option maxHeartbeats 4000000 in
set_option maxRecDepth 100000 in
theorem c_X6_divide (l : Launch) (G : gG) (z0 : Nat) (z1 : Nat) (z2 : Nat) (kn : Nat) (z3 : Nat) (ik : Nat) (z4 : Nat) (ln : Nat) (z5 : Nat) (lo : Nat) (M : Nat → Nat) (P : Nat → Nat) (Od : Nat → Nat) (x : Int32) (hk : kn ≤ 4) (h0 : ok M) (hO : ∀ k, k < 24 → ow M 0 k < 8) (sz : Nat) : Met l yX6_divide wsX6_divide ({ frames := 6, cells := 0, slots := 0, locals := 138 } : Room) (WR G [(z0, .inr (6, [.ref z1, .ref z2, .int (nI kn), .ref z3, .int (nI ik), .ref z4, .int (nI ln), .ref z5, .int (nI lo)])), (z1, .inl (G.2 0, 404, .inl (nA M))), (z2, .inl (G.2 0, 808, .inl (nA P))), (z5, .inl (G.2 0, 7, .inl (nA Od)))] sz [.ref z0, .int x]) (va_Qi (fun (r : Int32) (u : (Nat → Nat) × (Nat → Nat) × Nat × Nat × (Nat → Nat)) => match u with | ⟨m1, p1, k1, l1, o1⟩ => (r, m1, p1, k1) = aDiv M P kn x) (WB G (va_A [(z0, .inr (6, [.ref z1, .ref z2, .int (nI kn), .ref z3, .int (nI ik), .ref z4, .int (nI ln), .ref z5, .int (nI lo)])), (z1, .inl (G.2 0, 404, .inl (nA M))), (z2, .inl (G.2 0, 808, .inl (nA P))), (z5, .inl (G.2 0, 7, .inl (nA Od)))] sz) (fun u : (Nat → Nat) × (Nat → Nat) × Nat × Nat × (Nat → Nat) => match u with | ⟨m1, p1, k1, l1, o1⟩ => [(z0, .inr (6, [.ref z1, .ref z2, .int (nI k1), .ref z3, .int (nI ik), .ref z4, .int (nI ln), .ref z5, .int (nI l1)])), (z1, .inl (G.2 0, 404, .inl (nA m1))), (z2, .inl (G.2 0, 808, .inl (nA p1))), (z5, .inl (G.2 0, 7, .inl (nA o1)))])) (va_A [(z0, .inr (6, [.ref z1, .ref z2, .int (nI kn), .ref z3, .int (nI ik), .ref z4, .int (nI ln), .ref z5, .int (nI lo)])), (z1, .inl (G.2 0, 404, .inl (nA M))), (z2, .inl (G.2 0, 808, .inl (nA P))), (z5, .inl (G.2 0, 7, .inl (nA Od)))] sz)) 0 0 (va_A [(z0, .inr (6, [.ref z1, .ref z2, .int (nI kn), .ref z3, .int (nI ik), .ref z4, .int (nI ln), .ref z5, .int (nI lo)])), (z1, .inl (G.2 0, 404, .inl (nA M))), (z2, .inl (G.2 0, 808, .inl (nA P))), (z5, .inl (G.2 0, 7, .inl (nA Od)))] sz) := wrM (Qf := fun AA => va_Qi (fun (r : Int32) (u : (Nat → Nat) × (Nat → Nat) × Nat × Nat × (Nat → Nat)) => match u with | ⟨m1, p1, k1, l1, o1⟩ => (r, m1, p1, k1) = aDiv M P kn x) (WB G AA (fun u : (Nat → Nat) × (Nat → Nat) × Nat × Nat × (Nat → Nat) => match u with | ⟨m1, p1, k1, l1, o1⟩ => [(z0, .inr (6, [.ref z1, .ref z2, .int (nI k1), .ref z3, .int (nI ik), .ref z4, .int (nI ln), .ref z5, .int (nI l1)])), (z1, .inl (G.2 0, 404, .inl (nA m1))), (z2, .inl (G.2 0, 808, .inl (nA p1))), (z5, .inl (G.2 0, 7, .inl (nA o1)))])) AA) (C := RX6) rfl (by decide) rfl (Nat.le_of_ble_eq_true rfl) (fun pX eX sX mX bX meX cX ls AA hx hb hr hts hown hlk hml hin hP hK hD hAA hS hl => by
  have hl : lv_has ls 2 [(0, .ref z0), (1, .int x)] := hl
  refine lv_iload_n hx hb dX6_divide_0 rfl (lv_at hl 1 rfl) ?_
  refine nr_const (v := 1) hx hb dX6_divide_1 rfl ?_
  refine nr_bi (v := 127) hx hb dX6_divide_2 (by decide +kernel) ?_
  refine rcS (As := [.int x, .int (nI 1), .int (nI 127)]) ⟨hx, hb, hml, hown, hts⟩ (c_X6_in l x (nI 1) (nI 127)) (va_cwS 3 hts gX6_divide_X6_in rfl rfl rfl (by decide +kernel) ⟨Nat.le_of_ble_eq_true rfl, Nat.le_of_ble_eq_true rfl⟩) rfl hl.1 rfl (Nat.le_of_ble_eq_true rfl) dX6_divide_4 ⟨Nat.zero_le _, Nat.zero_le _⟩ ?_
  refine br_neb (tgt := 13) hx hb dX6_divide_7 (by decide) (fun h1 => ?_) (fun h1 => ?_)
  · skip
    have hpty : pty x := (by assumption)
    obtain ⟨A, hr_A, rfl⟩ := pty_of hpty
    have hl : lv_has ls 2 [(0, .ref z0), (1, .int (nI A))] := hl
    refine lv_aload_n hx hb dX6_divide_13 rfl (lv_at hl 0 rfl) ?_
    refine wcVv (As := []) (ws := [(z0, .inr (6, [.ref z1, .ref z2, .int (nI kn), .ref z3, .int (nI ik), .ref z4, .int (nI ln), .ref z5, .int (nI lo)])), (z1, .inl (G.2 0, 404, .inl (nA M))), (z2, .inl (G.2 0, 808, .inl (nA P))), (z5, .inl (G.2 0, 7, .inl (nA Od)))]) (wc := [(z0, .inr (6, [.ref z1, .ref z2, .int (nI kn), .ref z3, .int (nI ik), .ref z4, .int (nI ln), .ref z5, .int (nI lo)])), (z1, .inl (G.2 0, 404, .inl (nA M))), (z2, .inl (G.2 0, 808, .inl (nA P)))]) (wr := [(z5, .inl (G.2 0, 7, .inl (nA Od)))]) (wn := fun _ => [(z0, .inr (6, [.ref z1, .ref z2, .int (nI (pushK kn)), .ref z3, .int (nI ik), .ref z4, .int (nI ln), .ref z5, .int (nI lo)])), (z1, .inl (G.2 0, 404, .inl (nA M))), (z2, .inl (G.2 0, 808, .inl (nA (pushP P M kn)))), (z5, .inl (G.2 0, 7, .inl (nA Od)))]) ⟨hx, hb, hml, hown, hts⟩ (c_X6_remembers l G z0 z1 z2 kn z3 ik z4 ln z5 lo M P (by omega) _) (cwV 0 hts gX6_divide_X6_remembers rfl rfl rfl (by decide +kernel) ⟨Nat.le_of_ble_eq_true rfl, Nat.le_of_ble_eq_true rfl⟩) hK hP hD hS hAA [0, 1, 2] [3] [1, 2, 3, 0] rfl rfl rfl rfl (by decide) rfl (fun _ => rfl) 6 0 rfl rfl rfl hl.1 rfl (Nat.le_of_ble_eq_true rfl) dX6_divide_14 ⟨by first | exact Nat.le_of_ble_eq_true rfl | omega, by first | exact Nat.le_of_ble_eq_true rfl | omega⟩ (fun uu H locs hw2 hP hD hS => ?_)
    have hP : va_P G.1 vwCl [(z0, .inr (6, [.ref z1, .ref z2, .int (nI (pushK kn)), .ref z3, .int (nI ik), .ref z4, .int (nI ln), .ref z5, .int (nI lo)])), (z1, .inl (G.2 0, 404, .inl (nA M))), (z2, .inl (G.2 0, 808, .inl (nA (pushP P M kn)))), (z5, .inl (G.2 0, 7, .inl (nA Od)))] _ := hP
    have hD : va_D AA [(z0, .inr (6, [.ref z1, .ref z2, .int (nI (pushK kn)), .ref z3, .int (nI ik), .ref z4, .int (nI ln), .ref z5, .int (nI lo)])), (z1, .inl (G.2 0, 404, .inl (nA M))), (z2, .inl (G.2 0, 808, .inl (nA (pushP P M kn)))), (z5, .inl (G.2 0, 7, .inl (nA Od)))] := hD
    refine lv_aload_n hx hb dX6_divide_17 rfl (lv_at hl 0 rfl) ?_
    refine nr_const (v := 0) hx hb dX6_divide_18 rfl ?_
    refine lv_iload_n hx hb dX6_divide_19 rfl (lv_at hl 1 rfl) ?_
    refine wcVi (As := [.int (nI 0), .int (nI A)]) (ws := [(z0, .inr (6, [.ref z1, .ref z2, .int (nI (pushK kn)), .ref z3, .int (nI ik), .ref z4, .int (nI ln), .ref z5, .int (nI lo)])), (z1, .inl (G.2 0, 404, .inl (nA M))), (z2, .inl (G.2 0, 808, .inl (nA (pushP P M kn)))), (z5, .inl (G.2 0, 7, .inl (nA Od)))]) (wc := [(z0, .inr (6, [.ref z1, .ref z2, .int (nI (pushK kn)), .ref z3, .int (nI ik), .ref z4, .int (nI ln), .ref z5, .int (nI lo)])), (z1, .inl (G.2 0, 404, .inl (nA M))), (z5, .inl (G.2 0, 7, .inl (nA Od)))]) (wr := [(z2, .inl (G.2 0, 808, .inl (nA (pushP P M kn))))]) (wn := fun _ => [(z0, .inr (6, [.ref z1, .ref z2, .int (nI (pushK kn)), .ref z3, .int (nI ik), .ref z4, .int (nI ln), .ref z5, .int (nI (lb (fin M (ow M 0) A).1))])), (z1, .inl (G.2 0, 404, .inl (nA (dvM M 0 (gv (fin M (ow M 0) A).2.2.1 (fin M (ow M 0) A).2.1 24 (lb (fin M (ow M 0) A).1)) (fin M (ow M 0) A).2.2.2.1 (fin M (ow M 0) A).2.2.2.2)))), (z2, .inl (G.2 0, 808, .inl (nA (pushP P M kn)))), (z5, .inl (G.2 0, 7, .inl (nA (oa M Od 7))))]) ⟨hx, hb, hml, hown, hts⟩ (c_X6_divides l G z0 z1 z2 (pushK kn) z3 ik z4 ln z5 lo M Od 0 A h0 (Or.inl rfl) (by omega) (by omega) hO _) (cwV 2 hts gX6_divide_X6_divides rfl rfl rfl (by decide +kernel) ⟨Nat.le_of_ble_eq_true rfl, Nat.le_of_ble_eq_true rfl⟩) hK hP hD hS hAA [0, 1, 3] [2] [1, 2, 0, 3] rfl rfl rfl rfl (by decide) rfl (fun _ => rfl) 6 0 rfl rfl rfl hl.1 rfl (Nat.le_of_ble_eq_true rfl) dX6_divide_20 ⟨by first | exact Nat.le_of_ble_eq_true rfl | omega, by first | exact Nat.le_of_ble_eq_true rfl | omega⟩ (fun rr5 uu H locs hw4 hP hD hS => ?_)
    have hP : va_P G.1 vwCl [(z0, .inr (6, [.ref z1, .ref z2, .int (nI (pushK kn)), .ref z3, .int (nI ik), .ref z4, .int (nI ln), .ref z5, .int (nI (lb (fin M (ow M 0) A).1))])), (z1, .inl (G.2 0, 404, .inl (nA (dvM M 0 (gv (fin M (ow M 0) A).2.2.1 (fin M (ow M 0) A).2.1 24 (lb (fin M (ow M 0) A).1)) (fin M (ow M 0) A).2.2.2.1 (fin M (ow M 0) A).2.2.2.2)))), (z2, .inl (G.2 0, 808, .inl (nA (pushP P M kn)))), (z5, .inl (G.2 0, 7, .inl (nA (oa M Od 7))))] _ := hP
    have hD : va_D AA [(z0, .inr (6, [.ref z1, .ref z2, .int (nI (pushK kn)), .ref z3, .int (nI ik), .ref z4, .int (nI ln), .ref z5, .int (nI (lb (fin M (ow M 0) A).1))])), (z1, .inl (G.2 0, 404, .inl (nA (dvM M 0 (gv (fin M (ow M 0) A).2.2.1 (fin M (ow M 0) A).2.1 24 (lb (fin M (ow M 0) A).1)) (fin M (ow M 0) A).2.2.2.1 (fin M (ow M 0) A).2.2.2.2)))), (z2, .inl (G.2 0, 808, .inl (nA (pushP P M kn)))), (z5, .inl (G.2 0, 7, .inl (nA (oa M Od 7))))] := hD
    obtain ⟨hrhw4, hw4⟩ := hw4
    subst hrhw4
    exact wret hx hb hr hlk hK hS ((dvM M 0 (gv (fin M (ow M 0) A).2.2.1 (fin M (ow M 0) A).2.1 24 (lb (fin M (ow M 0) A).1)) (fin M (ow M 0) A).2.2.2.1 (fin M (ow M 0) A).2.2.2.2, pushP P M kn, (pushK kn), lb (fin M (ow M 0) A).1, oa M Od 7)) hP hD (by unfold aDiv; rw [if_pos (by assumption), nn_n (by omega)]; try rfl) dX6_divide_23
  · skip
    refine lv_bipush (v := (-2)) hx hb dX6_divide_10 (by decide +kernel) ?_
    exact wret hx hb hr hlk hK hS ((M, P, kn, lo, Od)) hP hD (by unfold aDiv; rw [if_neg (by assumption)]) dX6_divide_12)

set_option maxHeartbeats 4000000 in
set_option maxRecDepth 100000 in
theorem c_X6_trade (l : Launch) (G : gG) (z0 : Nat) (z1 : Nat) (z2 : Nat) (kn : Nat) (z3 : Nat) (ik : Nat) (z4 : Nat) (ln : Nat) (z5 : Nat) (lo : Nat) (M : Nat → Nat) (P : Nat → Nat) (x : Int32) (y : Int32) (hk : kn ≤ 4) (h0 : ok M) (hO : ∀ k, k < 24 → ow M 0 k < 8) (sz : Nat) : Met l yX6_trade wsX6_trade ({ frames := 6, cells := 0, slots := 0, locals := 143 } : Room) (WR G [(z0, .inr (6, [.ref z1, .ref z2, .int (nI kn), .ref z3, .int (nI ik), .ref z4, .int (nI ln), .ref z5, .int (nI lo)])), (z1, .inl (G.2 0, 404, .inl (nA M))), (z2, .inl (G.2 0, 808, .inl (nA P)))] sz [.ref z0, .int x, .int y]) (va_Qi (fun (r : Int32) (u : (Nat → Nat) × (Nat → Nat) × Nat) => match u with | ⟨m1, p1, k1⟩ => (r, m1, p1, k1) = aTrade M P kn x y) (WB G (va_A [(z0, .inr (6, [.ref z1, .ref z2, .int (nI kn), .ref z3, .int (nI ik), .ref z4, .int (nI ln), .ref z5, .int (nI lo)])), (z1, .inl (G.2 0, 404, .inl (nA M))), (z2, .inl (G.2 0, 808, .inl (nA P)))] sz) (fun u : (Nat → Nat) × (Nat → Nat) × Nat => match u with | ⟨m1, p1, k1⟩ => [(z0, .inr (6, [.ref z1, .ref z2, .int (nI k1), .ref z3, .int (nI ik), .ref z4, .int (nI ln), .ref z5, .int (nI lo)])), (z1, .inl (G.2 0, 404, .inl (nA m1))), (z2, .inl (G.2 0, 808, .inl (nA p1)))])) (va_A [(z0, .inr (6, [.ref z1, .ref z2, .int (nI kn), .ref z3, .int (nI ik), .ref z4, .int (nI ln), .ref z5, .int (nI lo)])), (z1, .inl (G.2 0, 404, .inl (nA M))), (z2, .inl (G.2 0, 808, .inl (nA P)))] sz)) 0 0 (va_A [(z0, .inr (6, [.ref z1, .ref z2, .int (nI kn), .ref z3, .int (nI ik), .ref z4, .int (nI ln), .ref z5, .int (nI lo)])), (z1, .inl (G.2 0, 404, .inl (nA M))), (z2, .inl (G.2 0, 808, .inl (nA P)))] sz) := wrM (Qf := fun AA => va_Qi (fun (r : Int32) (u : (Nat → Nat) × (Nat → Nat) × Nat) => match u with | ⟨m1, p1, k1⟩ => (r, m1, p1, k1) = aTrade M P kn x y) (WB G AA (fun u : (Nat → Nat) × (Nat → Nat) × Nat => match u with | ⟨m1, p1, k1⟩ => [(z0, .inr (6, [.ref z1, .ref z2, .int (nI k1), .ref z3, .int (nI ik), .ref z4, .int (nI ln), .ref z5, .int (nI lo)])), (z1, .inl (G.2 0, 404, .inl (nA m1))), (z2, .inl (G.2 0, 808, .inl (nA p1)))])) AA) (C := RX6) rfl (by decide) rfl (Nat.le_of_ble_eq_true rfl) (fun pX eX sX mX bX meX cX ls AA hx hb hr hts hown hlk hml hin hP hK hD hAA hS hl => by
  have hl : lv_has ls 4 [(0, .ref z0), (1, .int x), (2, .int y)] := hl
  have hF6 : ∀ w ∈ wsX60, w ∈ wsX6_trade := fun _ h => (List.mem_cons_of_mem _ (List.mem_append_right _ h))
  refine lv_iload_n hx hb dX6_trade_0 rfl (lv_at hl 1 rfl) ?_
  refine rcS (As := [.int x]) ⟨hx, hb, hml, hown, hts⟩ (c_X6_isCousin l x) (va_cwS 1 hts gX6_trade_X6_isCousin rfl rfl rfl (by decide +kernel) ⟨Nat.le_of_ble_eq_true rfl, Nat.le_of_ble_eq_true rfl⟩) rfl hl.1 rfl (Nat.le_of_ble_eq_true rfl) dX6_trade_1 ⟨Nat.zero_le _, Nat.zero_le _⟩ ?_
  refine br_eqb (tgt := 14) hx hb dX6_trade_4 (by decide) (fun h1 => ?_) (fun h1 => ?_)
  · skip
    refine lv_iconst (v := (-1)) hx hb dX6_trade_14 (by decide +kernel) ?_
    exact wret hx hb hr hlk hK hS ((M, P, kn)) hP hD (by unfold aTrade; rw [if_neg (by first | exact fun q => absurd q.1 (by assumption) | exact fun q => absurd q.2 (by assumption))]) dX6_trade_15
  · skip
    refine lv_iload_n hx hb dX6_trade_7 rfl (lv_at hl 2 rfl) ?_
    refine rcS (As := [.int y]) ⟨hx, hb, hml, hown, hts⟩ (c_X6_isCousin l y) (va_cwS 1 hts gX6_trade_X6_isCousin rfl rfl rfl (by decide +kernel) ⟨Nat.le_of_ble_eq_true rfl, Nat.le_of_ble_eq_true rfl⟩) rfl hl.1 rfl (Nat.le_of_ble_eq_true rfl) dX6_trade_8 ⟨Nat.zero_le _, Nat.zero_le _⟩ ?_
    refine br_neb (tgt := 16) hx hb dX6_trade_11 (by decide) (fun h2 => ?_) (fun h2 => ?_)
    · skip
      refine lv_iload_n hx hb dX6_trade_16 rfl (lv_at hl 1 rfl) ?_
      refine lv_iload_n hx hb dX6_trade_17 rfl (lv_at hl 2 rfl) ?_
      refine lv_icmp_ne (tgt := 24) hx hb dX6_trade_18 (by decide) (fun h3 => ?_) (fun h3 => ?_)
      · skip
        obtain ⟨a, hr_a, rfl⟩ := rg_of (x := x) (n := 6) (by assumption) (by decide)
        obtain ⟨b, hr_b, rfl⟩ := rg_of (x := y) (n := 6) (by assumption) (by decide)
        have hl : lv_has ls 4 [(0, .ref z0), (1, .int (nI a)), (2, .int (nI b))] := hl
        have hrs := rs_lt M (ow M 0) a b
        refine lv_aload_n hx hb dX6_trade_24 rfl (lv_at hl 0 rfl) ?_
        refine nr_const (v := 0) hx hb dX6_trade_25 rfl ?_
        refine lv_iload_n hx hb dX6_trade_26 rfl (lv_at hl 1 rfl) ?_
        refine lv_iload_n hx hb dX6_trade_27 rfl (lv_at hl 2 rfl) ?_
        refine rcV (As := [.int (nI 0), .int (nI a), .int (nI b)]) (wl := [(z0, .inr (6, [.ref z1, .ref z2, .int (nI kn), .ref z3, .int (nI ik), .ref z4, .int (nI ln), .ref z5, .int (nI lo)])), (z1, .inl (G.2 0, 404, .inl (nA M)))]) ⟨hx, hb, hml, hown, hts⟩ (c_X6_reason l G z0 z1 [.ref z1, .ref z2, .int (nI kn), .ref z3, .int (nI ik), .ref z4, .int (nI ln), .ref z5, .int (nI lo)] M 0 a b rfl h0 (by omega) (by omega) (by omega) hO) (cwV 3 hts gX6_trade_X6_reason rfl rfl rfl (by decide +kernel) ⟨Nat.le_of_ble_eq_true rfl, Nat.le_of_ble_eq_true rfl⟩) hK (hP.sub [0, 1] rfl) 6 0 rfl rfl rfl hl.1 rfl (Nat.le_of_ble_eq_true rfl) dX6_trade_28 ⟨Nat.zero_le _, Nat.zero_le _⟩ ?_
        refine lv_istore_n (lv' := [(3, .int (nI (rs M (ow M 0) a b))), (0, .ref z0), (1, .int (nI a)), (2, .int (nI b))]) hx hb dX6_trade_31 rfl hl (by decide) rfl (fun ls hl => ?_)
        refine lv_iload_n hx hb dX6_trade_32 rfl (lv_at hl 0 rfl) ?_
        refine br_le0 (tgt := 41) hx hb dX6_trade_33 (by decide) (by omega) (fun h4 => ?_) (fun h4 => ?_)
        · skip
          refine lv_aload_n hx hb dX6_trade_41 rfl (lv_at hl 1 rfl) ?_
          refine wcVv (As := []) (ws := [(z0, .inr (6, [.ref z1, .ref z2, .int (nI kn), .ref z3, .int (nI ik), .ref z4, .int (nI ln), .ref z5, .int (nI lo)])), (z1, .inl (G.2 0, 404, .inl (nA M))), (z2, .inl (G.2 0, 808, .inl (nA P)))]) (wc := [(z0, .inr (6, [.ref z1, .ref z2, .int (nI kn), .ref z3, .int (nI ik), .ref z4, .int (nI ln), .ref z5, .int (nI lo)])), (z1, .inl (G.2 0, 404, .inl (nA M))), (z2, .inl (G.2 0, 808, .inl (nA P)))]) (wr := []) (wn := fun _ => [(z0, .inr (6, [.ref z1, .ref z2, .int (nI (pushK kn)), .ref z3, .int (nI ik), .ref z4, .int (nI ln), .ref z5, .int (nI lo)])), (z1, .inl (G.2 0, 404, .inl (nA M))), (z2, .inl (G.2 0, 808, .inl (nA (pushP P M kn))))]) ⟨hx, hb, hml, hown, hts⟩ (c_X6_remembers l G z0 z1 z2 kn z3 ik z4 ln z5 lo M P (by omega) _) (cwV 0 hts gX6_trade_X6_remembers rfl rfl rfl (by decide +kernel) ⟨Nat.le_of_ble_eq_true rfl, Nat.le_of_ble_eq_true rfl⟩) hK hP hD hS hAA [0, 1, 2] [] [0, 1, 2] rfl rfl rfl rfl (by decide) rfl (fun _ => rfl) 6 0 rfl rfl rfl hl.1 rfl (Nat.le_of_ble_eq_true rfl) dX6_trade_42 ⟨by first | exact Nat.le_of_ble_eq_true rfl | omega, by first | exact Nat.le_of_ble_eq_true rfl | omega⟩ (fun uu H locs hw5 hP hD hS => ?_)
          have hP : va_P G.1 vwCl [(z0, .inr (6, [.ref z1, .ref z2, .int (nI (pushK kn)), .ref z3, .int (nI ik), .ref z4, .int (nI ln), .ref z5, .int (nI lo)])), (z1, .inl (G.2 0, 404, .inl (nA M))), (z2, .inl (G.2 0, 808, .inl (nA (pushP P M kn))))] _ := hP
          have hD : va_D AA [(z0, .inr (6, [.ref z1, .ref z2, .int (nI (pushK kn)), .ref z3, .int (nI ik), .ref z4, .int (nI ln), .ref z5, .int (nI lo)])), (z1, .inl (G.2 0, 404, .inl (nA M))), (z2, .inl (G.2 0, 808, .inl (nA (pushP P M kn))))] := hD
          refine lv_aload_n hx hb dX6_trade_45 rfl (lv_at hl 1 rfl) ?_
          refine nr_const (v := 0) hx hb dX6_trade_46 rfl ?_
          refine lv_iload_n hx hb dX6_trade_47 rfl (lv_at hl 2 rfl) ?_
          refine lv_iload_n hx hb dX6_trade_48 rfl (lv_at hl 3 rfl) ?_
          refine wcVv (As := [.int (nI 0), .int (nI a), .int (nI b)]) (ws := [(z0, .inr (6, [.ref z1, .ref z2, .int (nI (pushK kn)), .ref z3, .int (nI ik), .ref z4, .int (nI ln), .ref z5, .int (nI lo)])), (z1, .inl (G.2 0, 404, .inl (nA M))), (z2, .inl (G.2 0, 808, .inl (nA (pushP P M kn))))]) (wc := [(z0, .inr (6, [.ref z1, .ref z2, .int (nI (pushK kn)), .ref z3, .int (nI ik), .ref z4, .int (nI ln), .ref z5, .int (nI lo)])), (z1, .inl (G.2 0, 404, .inl (nA M)))]) (wr := [(z2, .inl (G.2 0, 808, .inl (nA (pushP P M kn))))]) (wn := fun _ => [(z0, .inr (6, [.ref z1, .ref z2, .int (nI (pushK kn)), .ref z3, .int (nI ik), .ref z4, .int (nI ln), .ref z5, .int (nI lo)])), (z1, .inl (G.2 0, 404, .inl (nA (trA M 0 a b 24)))), (z2, .inl (G.2 0, 808, .inl (nA (pushP P M kn))))]) ⟨hx, hb, hml, hown, hts⟩ (c_X6_trades l G z0 z1 [.ref z1, .ref z2, .int (nI (pushK kn)), .ref z3, .int (nI ik), .ref z4, .int (nI ln), .ref z5, .int (nI lo)] M 0 a b rfl (by omega) (by omega) (by omega) hO _) (cwV 3 hts gX6_trade_X6_trades rfl rfl rfl (by decide +kernel) ⟨Nat.le_of_ble_eq_true rfl, Nat.le_of_ble_eq_true rfl⟩) hK hP hD hS hAA [0, 1] [2] [1, 2, 0] rfl rfl rfl rfl (by decide) rfl (fun _ => rfl) 6 0 rfl rfl rfl hl.1 rfl (Nat.le_of_ble_eq_true rfl) dX6_trade_49 ⟨by first | exact Nat.le_of_ble_eq_true rfl | omega, by first | exact Nat.le_of_ble_eq_true rfl | omega⟩ (fun uu H locs hw7 hP hD hS => ?_)
          have hP : va_P G.1 vwCl [(z0, .inr (6, [.ref z1, .ref z2, .int (nI (pushK kn)), .ref z3, .int (nI ik), .ref z4, .int (nI ln), .ref z5, .int (nI lo)])), (z1, .inl (G.2 0, 404, .inl (nA (trA M 0 a b 24)))), (z2, .inl (G.2 0, 808, .inl (nA (pushP P M kn))))] _ := hP
          have hD : va_D AA [(z0, .inr (6, [.ref z1, .ref z2, .int (nI (pushK kn)), .ref z3, .int (nI ik), .ref z4, .int (nI ln), .ref z5, .int (nI lo)])), (z1, .inl (G.2 0, 404, .inl (nA (trA M 0 a b 24)))), (z2, .inl (G.2 0, 808, .inl (nA (pushP P M kn))))] := hD
          refine lv_aload_n hx hb dX6_trade_52 rfl (lv_at hl 1 rfl) ?_
          refine va_get (D := G.1) (ci := 6) (v := .ref z1) (C := RX6) (T := TX6) (N := 9) hx hb hts hF6 hown hK hP 0 rfl rfl 0 (by decide) (hts (.fieldLink RX6 7 "CousinSharesModel" "s" "[I") (List.mem_of_getElem? (i := 1) rfl)) (fun _ h9 => h9) rfl dX6_trade_53 ?_
          refine nr_si (v := 201) hx hb dX6_trade_56 (by decide +kernel) ?_
          refine lv_dup2_11 hx hb dX6_trade_59 rfl rfl ?_
          refine nr_ald hx hb hK hP 1 rfl (by omega) (by decide) dX6_trade_60 ?_
          refine nr_top (y := nI (M 201)) (congrArg nI (tr1_x M a b)) ?_
          refine nr_const (v := 1) hx hb dX6_trade_61 rfl ?_
          refine nr_add hx hb dX6_trade_62 ?_
          refine nr_ast (ws' := [(z0, .inr (6, [.ref z1, .ref z2, .int (nI (pushK kn)), .ref z3, .int (nI ik), .ref z4, .int (nI ln), .ref z5, .int (nI lo)])), (z1, .inl (G.2 0, 404, .inl (nA (va_up (trA M 0 a b 24) 201 ((M 201) + 1))))), (z2, .inl (G.2 0, 808, .inl (nA (pushP P M kn))))]) hx hb hK hP hD hS 1 rfl (by omega) (by decide) dX6_trade_63 rfl (fun H locs hP hD hS => ?_)
          refine lv_aload_n hx hb dX6_trade_64 rfl (lv_at hl 1 rfl) ?_
          refine nr_const (v := 0) hx hb dX6_trade_65 rfl ?_
          refine rcV (As := [.int (nI 0)]) (wl := [(z0, .inr (6, [.ref z1, .ref z2, .int (nI (pushK kn)), .ref z3, .int (nI ik), .ref z4, .int (nI ln), .ref z5, .int (nI lo)])), (z1, .inl (G.2 0, 404, .inl (nA (va_up (trA M 0 a b 24) 201 ((M 201) + 1)))))]) ⟨hx, hb, hml, hown, hts⟩ (c_X6_allEnvies l G z0 z1 [.ref z1, .ref z2, .int (nI (pushK kn)), .ref z3, .int (nI ik), .ref z4, .int (nI ln), .ref z5, .int (nI lo)] (va_up (trA M 0 a b 24) 201 ((M 201) + 1)) 0 rfl (ok_up (trA_ok h0 (Or.inl rfl) (by omega) (by omega)) (by decide)) (by omega) (fun k hk => by rw [tr1_ow M a b _ hk]; exact swp_lt (by omega) (by omega) (hO k hk))) (cwV 1 hts gX6_trade_X6_allEnvies rfl rfl rfl (by decide +kernel) ⟨Nat.le_of_ble_eq_true rfl, Nat.le_of_ble_eq_true rfl⟩) hK (hP.sub [0, 1] rfl) 6 0 rfl rfl rfl hl.1 rfl (Nat.le_of_ble_eq_true rfl) dX6_trade_66 ⟨Nat.zero_le _, Nat.zero_le _⟩ ?_
          refine nr_top (y := nI (es M (swO (ow M 0) a b) 127 127)) (congrArg nI (ag_es (tr1_ag M a b _) (fun k hk => (tr1_ow M a b _ hk).symm)).symm) ?_
          exact wret hx hb hr hlk hK hS ((va_up (trA M 0 a b 24) 201 ((M 201) + 1), pushP P M kn, pushK kn)) hP hD (by unfold aTrade; rw [if_pos ⟨by assumption, by assumption⟩, if_neg (by assumption), nn_n (by omega), nn_n (by omega), if_pos (by omega)]) dX6_trade_69
        · skip
          refine lv_bipush (v := (-10)) hx hb dX6_trade_36 (by decide +kernel) ?_
          refine lv_iload_n hx hb dX6_trade_38 rfl (lv_at hl 0 rfl) ?_
          refine lv_isub hx hb dX6_trade_39 ?_
          exact wret hx hb hr hlk hK hS ((M, P, kn)) hP hD (by unfold aTrade; rw [if_pos ⟨by assumption, by assumption⟩, if_neg (by assumption), nn_n (by omega), nn_n (by omega), if_neg (by omega)]) dX6_trade_40
      · skip
        refine lv_bipush (v := (-2)) hx hb dX6_trade_21 (by decide +kernel) ?_
        exact wret hx hb hr hlk hK hS ((M, P, kn)) hP hD (by unfold aTrade; rw [if_pos ⟨by assumption, by assumption⟩, if_pos (by assumption)]) dX6_trade_23
    · skip
      refine lv_iconst (v := (-1)) hx hb dX6_trade_14 (by decide +kernel) ?_
      exact wret hx hb hr hlk hK hS ((M, P, kn)) hP hD (by unfold aTrade; rw [if_neg (by first | exact fun q => absurd q.1 (by assumption) | exact fun q => absurd q.2 (by assumption))]) dX6_trade_15)

set_option maxHeartbeats 4000000 in
set_option maxRecDepth 100000 in
theorem c_X6_settle (l : Launch) (G : gG) (z0 : Nat) (z1 : Nat) (z2 : Nat) (kn : Nat) (z3 : Nat) (ik : Nat) (z4 : Nat) (ln : Nat) (z5 : Nat) (lo : Nat) (M : Nat → Nat) (P : Nat → Nat) (hk : kn ≤ 4) (h0 : ok M) (hO : ∀ k, k < 24 → ow M 0 k < 8) (sz : Nat) : Met l yX6_settle wsX6_settle ({ frames := 8, cells := 0, slots := 0, locals := 193 } : Room) (WR G [(z0, .inr (6, [.ref z1, .ref z2, .int (nI kn), .ref z3, .int (nI ik), .ref z4, .int (nI ln), .ref z5, .int (nI lo)])), (z1, .inl (G.2 0, 404, .inl (nA M))), (z2, .inl (G.2 0, 808, .inl (nA P)))] sz [.ref z0]) (va_Qi (fun (r : Int32) (u : (Nat → Nat) × (Nat → Nat) × Nat) => match u with | ⟨m1, p1, k1⟩ => qSettle M P kn r m1 p1 k1) (WB G (va_A [(z0, .inr (6, [.ref z1, .ref z2, .int (nI kn), .ref z3, .int (nI ik), .ref z4, .int (nI ln), .ref z5, .int (nI lo)])), (z1, .inl (G.2 0, 404, .inl (nA M))), (z2, .inl (G.2 0, 808, .inl (nA P)))] sz) (fun u : (Nat → Nat) × (Nat → Nat) × Nat => match u with | ⟨m1, p1, k1⟩ => [(z0, .inr (6, [.ref z1, .ref z2, .int (nI k1), .ref z3, .int (nI ik), .ref z4, .int (nI ln), .ref z5, .int (nI lo)])), (z1, .inl (G.2 0, 404, .inl (nA m1))), (z2, .inl (G.2 0, 808, .inl (nA p1)))])) (va_A [(z0, .inr (6, [.ref z1, .ref z2, .int (nI kn), .ref z3, .int (nI ik), .ref z4, .int (nI ln), .ref z5, .int (nI lo)])), (z1, .inl (G.2 0, 404, .inl (nA M))), (z2, .inl (G.2 0, 808, .inl (nA P)))] sz)) 0 0 (va_A [(z0, .inr (6, [.ref z1, .ref z2, .int (nI kn), .ref z3, .int (nI ik), .ref z4, .int (nI ln), .ref z5, .int (nI lo)])), (z1, .inl (G.2 0, 404, .inl (nA M))), (z2, .inl (G.2 0, 808, .inl (nA P)))] sz) := wrM (Qf := fun AA => va_Qi (fun (r : Int32) (u : (Nat → Nat) × (Nat → Nat) × Nat) => match u with | ⟨m1, p1, k1⟩ => qSettle M P kn r m1 p1 k1) (WB G AA (fun u : (Nat → Nat) × (Nat → Nat) × Nat => match u with | ⟨m1, p1, k1⟩ => [(z0, .inr (6, [.ref z1, .ref z2, .int (nI k1), .ref z3, .int (nI ik), .ref z4, .int (nI ln), .ref z5, .int (nI lo)])), (z1, .inl (G.2 0, 404, .inl (nA m1))), (z2, .inl (G.2 0, 808, .inl (nA p1)))])) AA) (C := RX6) rfl (by decide) rfl (Nat.le_of_ble_eq_true rfl) (fun pX eX sX mX bX meX cX ls AA hx hb hr hts hown hlk hml hin hP hK hD hAA hS hl => by
  have hl : lv_has ls 1 [(0, .ref z0)] := hl
  have hbl := bsf_lt M (ow M 0) (Nat.le_refl 49)
  refine lv_aload_n hx hb dX6_settle_0 rfl (lv_at hl 0 rfl) ?_
  refine nr_const (v := 0) hx hb dX6_settle_1 rfl ?_
  refine wcVi (As := [.int (nI 0)]) (ws := [(z0, .inr (6, [.ref z1, .ref z2, .int (nI kn), .ref z3, .int (nI ik), .ref z4, .int (nI ln), .ref z5, .int (nI lo)])), (z1, .inl (G.2 0, 404, .inl (nA M))), (z2, .inl (G.2 0, 808, .inl (nA P)))]) (wc := [(z0, .inr (6, [.ref z1, .ref z2, .int (nI kn), .ref z3, .int (nI ik), .ref z4, .int (nI ln), .ref z5, .int (nI lo)])), (z1, .inl (G.2 0, 404, .inl (nA M)))]) (wr := [(z2, .inl (G.2 0, 808, .inl (nA P)))]) (wn := fun _ => [(z0, .inr (6, [.ref z1, .ref z2, .int (nI kn), .ref z3, .int (nI ik), .ref z4, .int (nI ln), .ref z5, .int (nI lo)])), (z1, .inl (G.2 0, 404, .inl (nA M))), (z2, .inl (G.2 0, 808, .inl (nA P)))]) ⟨hx, hb, hml, hown, hts⟩ (c_X6_best l G z0 z1 [.ref z1, .ref z2, .int (nI kn), .ref z3, .int (nI ik), .ref z4, .int (nI ln), .ref z5, .int (nI lo)] M 0 rfl h0 (Or.inl rfl) hO _) (cwV 1 hts gX6_settle_X6_best rfl rfl rfl (by decide +kernel) ⟨Nat.le_of_ble_eq_true rfl, Nat.le_of_ble_eq_true rfl⟩) hK hP hD hS hAA [0, 1] [2] [1, 2, 0] rfl rfl rfl rfl (by decide) rfl (fun _ => rfl) 6 0 rfl rfl rfl hl.1 rfl (Nat.le_of_ble_eq_true rfl) dX6_settle_2 ⟨by first | exact Nat.le_of_ble_eq_true rfl | omega, by first | exact Nat.le_of_ble_eq_true rfl | omega⟩ (fun rr2 uu H locs hw1 hP hD hS => ?_)
  have hP : va_P G.1 vwCl [(z0, .inr (6, [.ref z1, .ref z2, .int (nI kn), .ref z3, .int (nI ik), .ref z4, .int (nI ln), .ref z5, .int (nI lo)])), (z1, .inl (G.2 0, 404, .inl (nA M))), (z2, .inl (G.2 0, 808, .inl (nA P)))] _ := hP
  have hD : va_D AA [(z0, .inr (6, [.ref z1, .ref z2, .int (nI kn), .ref z3, .int (nI ik), .ref z4, .int (nI ln), .ref z5, .int (nI lo)])), (z1, .inl (G.2 0, 404, .inl (nA M))), (z2, .inl (G.2 0, 808, .inl (nA P)))] := hD
  obtain ⟨hrhw1, hw1⟩ := hw1
  subst hrhw1
  refine lv_bipush (v := (-5)) hx hb dX6_settle_5 (by decide +kernel) ?_
  refine lv_icmp_ne (tgt := 13) hx hb dX6_settle_7 (by decide) (fun h3 => ?_) (fun h3 => ?_)
  · skip
    have hnb : ¬ (bsf M (ow M 0) 49).1 = 0 := (fun q => absurd ((nbI_5 (by omega)).mpr q) (by assumption))
    refine lv_aload_n hx hb dX6_settle_13 rfl (lv_at hl 0 rfl) ?_
    refine wcVv (As := []) (ws := [(z0, .inr (6, [.ref z1, .ref z2, .int (nI kn), .ref z3, .int (nI ik), .ref z4, .int (nI ln), .ref z5, .int (nI lo)])), (z1, .inl (G.2 0, 404, .inl (nA M))), (z2, .inl (G.2 0, 808, .inl (nA P)))]) (wc := [(z0, .inr (6, [.ref z1, .ref z2, .int (nI kn), .ref z3, .int (nI ik), .ref z4, .int (nI ln), .ref z5, .int (nI lo)])), (z1, .inl (G.2 0, 404, .inl (nA M))), (z2, .inl (G.2 0, 808, .inl (nA P)))]) (wr := []) (wn := fun _ => [(z0, .inr (6, [.ref z1, .ref z2, .int (nI (pushK kn)), .ref z3, .int (nI ik), .ref z4, .int (nI ln), .ref z5, .int (nI lo)])), (z1, .inl (G.2 0, 404, .inl (nA M))), (z2, .inl (G.2 0, 808, .inl (nA (pushP P M kn))))]) ⟨hx, hb, hml, hown, hts⟩ (c_X6_remembers l G z0 z1 z2 kn z3 ik z4 ln z5 lo M P (by omega) _) (cwV 0 hts gX6_settle_X6_remembers rfl rfl rfl (by decide +kernel) ⟨Nat.le_of_ble_eq_true rfl, Nat.le_of_ble_eq_true rfl⟩) hK hP hD hS hAA [0, 1, 2] [] [0, 1, 2] rfl rfl rfl rfl (by decide) rfl (fun _ => rfl) 6 0 rfl rfl rfl hl.1 rfl (Nat.le_of_ble_eq_true rfl) dX6_settle_14 ⟨by first | exact Nat.le_of_ble_eq_true rfl | omega, by first | exact Nat.le_of_ble_eq_true rfl | omega⟩ (fun uu H locs hw4 hP hD hS => ?_)
    have hP : va_P G.1 vwCl [(z0, .inr (6, [.ref z1, .ref z2, .int (nI (pushK kn)), .ref z3, .int (nI ik), .ref z4, .int (nI ln), .ref z5, .int (nI lo)])), (z1, .inl (G.2 0, 404, .inl (nA M))), (z2, .inl (G.2 0, 808, .inl (nA (pushP P M kn))))] _ := hP
    have hD : va_D AA [(z0, .inr (6, [.ref z1, .ref z2, .int (nI (pushK kn)), .ref z3, .int (nI ik), .ref z4, .int (nI ln), .ref z5, .int (nI lo)])), (z1, .inl (G.2 0, 404, .inl (nA M))), (z2, .inl (G.2 0, 808, .inl (nA (pushP P M kn))))] := hD
    refine lv_aload_n hx hb dX6_settle_17 rfl (lv_at hl 0 rfl) ?_
    refine nr_const (v := 0) hx hb dX6_settle_18 rfl ?_
    refine wcVi (As := [.int (nI 0)]) (ws := [(z0, .inr (6, [.ref z1, .ref z2, .int (nI (pushK kn)), .ref z3, .int (nI ik), .ref z4, .int (nI ln), .ref z5, .int (nI lo)])), (z1, .inl (G.2 0, 404, .inl (nA M))), (z2, .inl (G.2 0, 808, .inl (nA (pushP P M kn))))]) (wc := [(z0, .inr (6, [.ref z1, .ref z2, .int (nI (pushK kn)), .ref z3, .int (nI ik), .ref z4, .int (nI ln), .ref z5, .int (nI lo)])), (z1, .inl (G.2 0, 404, .inl (nA M)))]) (wr := [(z2, .inl (G.2 0, 808, .inl (nA (pushP P M kn))))]) (wn := fun u0 => [(z0, .inr (6, [.ref z1, .ref z2, .int (nI (pushK kn)), .ref z3, .int (nI ik), .ref z4, .int (nI ln), .ref z5, .int (nI lo)])), (z1, .inl (G.2 0, 404, .inl (nA (va_up (dvM M 0 (stO M (ow M 0) u0) 0 0) (0 + 201) (M (0 + 201) + u0))))), (z2, .inl (G.2 0, 808, .inl (nA (pushP P M kn))))]) ⟨hx, hb, hml, hown, hts⟩ (c_X6_settles l G z0 z1 [.ref z1, .ref z2, .int (nI (pushK kn)), .ref z3, .int (nI ik), .ref z4, .int (nI ln), .ref z5, .int (nI lo)] M 0 rfl h0 (Or.inl rfl) hO _) (cwV 1 hts gX6_settle_X6_settles rfl rfl rfl (by decide +kernel) ⟨Nat.le_of_ble_eq_true rfl, Nat.le_of_ble_eq_true rfl⟩) hK hP hD hS hAA [0, 1] [2] [1, 2, 0] rfl rfl rfl rfl (by decide) rfl (fun _ => rfl) 6 0 rfl rfl rfl hl.1 rfl (Nat.le_of_ble_eq_true rfl) dX6_settle_19 ⟨by first | exact Nat.le_of_ble_eq_true rfl | omega, by first | exact Nat.le_of_ble_eq_true rfl | omega⟩ (fun rr8 uu H locs hw7 hP hD hS => ?_)
    obtain ⟨nn_6, rfl⟩ : ∃ z, z = uu := ⟨_, rfl⟩
    have hP : va_P G.1 vwCl [(z0, .inr (6, [.ref z1, .ref z2, .int (nI (pushK kn)), .ref z3, .int (nI ik), .ref z4, .int (nI ln), .ref z5, .int (nI lo)])), (z1, .inl (G.2 0, 404, .inl (nA (va_up (dvM M 0 (stO M (ow M 0) nn_6) 0 0) (0 + 201) (M (0 + 201) + nn_6))))), (z2, .inl (G.2 0, 808, .inl (nA (pushP P M kn))))] _ := hP
    have hD : va_D AA [(z0, .inr (6, [.ref z1, .ref z2, .int (nI (pushK kn)), .ref z3, .int (nI ik), .ref z4, .int (nI ln), .ref z5, .int (nI lo)])), (z1, .inl (G.2 0, 404, .inl (nA (va_up (dvM M 0 (stO M (ow M 0) nn_6) 0 0) (0 + 201) (M (0 + 201) + nn_6))))), (z2, .inl (G.2 0, 808, .inl (nA (pushP P M kn))))] := hD
    obtain ⟨hrhw7, hw7⟩ := hw7
    subst hrhw7
    exact wret hx hb hr hlk hK hS ((va_up (dvM M 0 (stO M (ow M 0) nn_6) 0 0) (0 + 201) (M (0 + 201) + nn_6), pushP P M kn, pushK kn)) hP hD (qSettle_y hnb hw7) dX6_settle_22
  · skip
    refine lv_bipush (v := (-5)) hx hb dX6_settle_10 (by decide +kernel) ?_
    exact wret hx hb hr hlk hK hS ((M, P, kn)) hP hD (qSettle_n ((nbI_5 (by omega)).mp (by assumption))) dX6_settle_12)

set_option maxHeartbeats 4000000 in
set_option maxRecDepth 100000 in
theorem c_X6_type (l : Launch) (G : gG) (z0 : Nat) (z1 : Nat) (z2 : Nat) (kn : Nat) (z3 : Nat) (ik : Nat) (z4 : Nat) (ln : Nat) (z5 : Nat) (lo : Nat) (T : Nat → Nat) (ch : Nat) (hln : ln ≤ 60) (sz : Nat) : Met l yX6_type wsX6_type ({ frames := 0, cells := 0, slots := 0, locals := 0 } : Room) (WR G [(z0, .inr (6, [.ref z1, .ref z2, .int (nI kn), .ref z3, .int (nI ik), .ref z4, .int (nI ln), .ref z5, .int (nI lo)])), (z4, .inl (G.2 0, 60, .inl (nA T)))] sz [.ref z0, .int (nI ch)]) (va_Qi (fun (r : Int32) (u : (Nat → Nat) × Nat) => match u with | ⟨t1, n1⟩ => (r, t1, n1) = aType T ln ch) (WB G (va_A [(z0, .inr (6, [.ref z1, .ref z2, .int (nI kn), .ref z3, .int (nI ik), .ref z4, .int (nI ln), .ref z5, .int (nI lo)])), (z4, .inl (G.2 0, 60, .inl (nA T)))] sz) (fun u : (Nat → Nat) × Nat => match u with | ⟨t1, n1⟩ => [(z0, .inr (6, [.ref z1, .ref z2, .int (nI kn), .ref z3, .int (nI ik), .ref z4, .int (nI n1), .ref z5, .int (nI lo)])), (z4, .inl (G.2 0, 60, .inl (nA t1)))])) (va_A [(z0, .inr (6, [.ref z1, .ref z2, .int (nI kn), .ref z3, .int (nI ik), .ref z4, .int (nI ln), .ref z5, .int (nI lo)])), (z4, .inl (G.2 0, 60, .inl (nA T)))] sz)) 0 0 (va_A [(z0, .inr (6, [.ref z1, .ref z2, .int (nI kn), .ref z3, .int (nI ik), .ref z4, .int (nI ln), .ref z5, .int (nI lo)])), (z4, .inl (G.2 0, 60, .inl (nA T)))] sz) := wrM (Qf := fun AA => va_Qi (fun (r : Int32) (u : (Nat → Nat) × Nat) => match u with | ⟨t1, n1⟩ => (r, t1, n1) = aType T ln ch) (WB G AA (fun u : (Nat → Nat) × Nat => match u with | ⟨t1, n1⟩ => [(z0, .inr (6, [.ref z1, .ref z2, .int (nI kn), .ref z3, .int (nI ik), .ref z4, .int (nI n1), .ref z5, .int (nI lo)])), (z4, .inl (G.2 0, 60, .inl (nA t1)))])) AA) (C := RX6) rfl (by decide) rfl (Nat.le_of_ble_eq_true rfl) (fun pX eX sX mX bX meX cX ls AA hx hb hr hts hown hlk hml hin hP hK hD hAA hS hl => by
  have hl : lv_has ls 2 [(0, .ref z0), (1, .int (nI ch))] := hl
  have hF6 : ∀ w ∈ wsX60, w ∈ wsX6_type := fun _ h => (List.mem_cons_of_mem _ (List.mem_append_right _ h))
  refine lv_aload_n hx hb dX6_type_0 rfl (lv_at hl 0 rfl) ?_
  refine va_get (D := G.1) (ci := 6) (v := .int (nI ln)) (C := RX6) (T := TX6) (N := 9) hx hb hts hF6 hown hK hP 0 rfl rfl 6 (by decide) (hts (.fieldLink RX6 121 "CousinSharesModel" "length" "I") (List.mem_of_getElem? (i := 1) rfl)) (fun _ h9 => h9) rfl dX6_type_1 ?_
  refine nr_bi (v := 60) hx hb dX6_type_4 (by decide +kernel) ?_
  refine br_ine (tgt := 12) hx hb dX6_type_6 (by decide) (by omega) (by decide) (fun h1 => ?_) (fun h1 => ?_)
  · skip
    refine lv_aload_n hx hb dX6_type_12 rfl (lv_at hl 0 rfl) ?_
    refine va_get (D := G.1) (ci := 6) (v := .ref z4) (C := RX6) (T := TX6) (N := 9) hx hb hts hF6 hown hK hP 0 rfl rfl 5 (by decide) (hts (.fieldLink RX6 19 "CousinSharesModel" "text" "[I") (List.mem_of_getElem? (i := 2) rfl)) (fun _ h9 => h9) rfl dX6_type_13 ?_
    refine lv_aload_n hx hb dX6_type_16 rfl (lv_at hl 0 rfl) ?_
    refine va_get (D := G.1) (ci := 6) (v := .int (nI ln)) (C := RX6) (T := TX6) (N := 9) hx hb hts hF6 hown hK hP 0 rfl rfl 6 (by decide) (hts (.fieldLink RX6 121 "CousinSharesModel" "length" "I") (List.mem_of_getElem? (i := 1) rfl)) (fun _ h9 => h9) rfl dX6_type_17 ?_
    refine lv_iload_n hx hb dX6_type_20 rfl (lv_at hl 1 rfl) ?_
    refine nr_ast (ws' := [(z0, .inr (6, [.ref z1, .ref z2, .int (nI kn), .ref z3, .int (nI ik), .ref z4, .int (nI ln), .ref z5, .int (nI lo)])), (z4, .inl (G.2 0, 60, .inl (nA (va_up T ln ch))))]) hx hb hK hP hD hS 1 rfl (by omega) (by decide) dX6_type_21 rfl (fun H locs hP hD hS => ?_)
    refine lv_aload_n hx hb dX6_type_22 rfl (lv_at hl 0 rfl) ?_
    refine lv_dup hx hb dX6_type_23 rfl ?_
    refine va_get (D := G.1) (ci := 6) (v := .int (nI ln)) (C := RX6) (T := TX6) (N := 9) hx hb hts hF6 hown hK hP 0 rfl rfl 6 (by decide) (hts (.fieldLink RX6 121 "CousinSharesModel" "length" "I") (List.mem_of_getElem? (i := 1) rfl)) (fun _ h9 => h9) rfl dX6_type_24 ?_
    refine nr_const (v := 1) hx hb dX6_type_27 rfl ?_
    refine nr_add hx hb dX6_type_28 ?_
    refine va_put (D := G.1) (ci := 6) (v := .int (nI (ln + 1))) (ty := .int) (C := RX6) (T := TX6) (N := 9) hx hb hts hF6 tyX6 tyX6_ok nmX6 hown hK hP hD hS 0 rfl rfl 6 (by decide) (hts (.fieldLink RX6 121 "CousinSharesModel" "length" "I") (List.mem_of_getElem? (i := 1) rfl)) (fun _ h9 => h9) rfl (by decide +kernel) rfl rfl (Nat.le_of_ble_eq_true rfl) dX6_type_29 (fun H locs hP hD hS => ?_)
    have hP : va_P G.1 vwCl [(z0, .inr (6, [.ref z1, .ref z2, .int (nI kn), .ref z3, .int (nI ik), .ref z4, .int (nI (ln + 1)), .ref z5, .int (nI lo)])), (z4, .inl (G.2 0, 60, .inl (nA (va_up T ln ch))))] _ := hP
    have hD : va_D AA [(z0, .inr (6, [.ref z1, .ref z2, .int (nI kn), .ref z3, .int (nI ik), .ref z4, .int (nI (ln + 1)), .ref z5, .int (nI lo)])), (z4, .inl (G.2 0, 60, .inl (nA (va_up T ln ch))))] := hD
    refine lv_aload_n hx hb dX6_type_32 rfl (lv_at hl 0 rfl) ?_
    refine va_get (D := G.1) (ci := 6) (v := .int (nI (ln + 1))) (C := RX6) (T := TX6) (N := 9) hx hb hts hF6 hown hK hP 0 rfl rfl 6 (by decide) (hts (.fieldLink RX6 121 "CousinSharesModel" "length" "I") (List.mem_of_getElem? (i := 1) rfl)) (fun _ h9 => h9) rfl dX6_type_33 ?_
    exact wret hx hb hr hlk hK hS ((va_up T ln ch, ln + 1)) hP hD ((if_neg (by assumption)).symm) dX6_type_36
  · skip
    refine lv_bipush (v := (-3)) hx hb dX6_type_9 (by decide +kernel) ?_
    exact wret hx hb hr hlk hK hS ((T, ln)) hP hD ((if_pos (by assumption)).symm) dX6_type_11)

set_option maxHeartbeats 4000000 in
set_option maxRecDepth 100000 in
theorem c_X6_clearText (l : Launch) (G : gG) (z0 : Nat) (z1 : Nat) (z2 : Nat) (kn : Nat) (z3 : Nat) (ik : Nat) (z4 : Nat) (ln : Nat) (z5 : Nat) (lo : Nat)  (sz : Nat) : Met l yX6_clearText wsX6_clearText ({ frames := 0, cells := 0, slots := 0, locals := 0 } : Room) (WR G [(z0, .inr (6, [.ref z1, .ref z2, .int (nI kn), .ref z3, .int (nI ik), .ref z4, .int (nI ln), .ref z5, .int (nI lo)]))] sz [.ref z0]) (va_Qi (fun (r : Int32) (_ : Unit) => r = nI ln ∧ (True)) (WB G (va_A [(z0, .inr (6, [.ref z1, .ref z2, .int (nI kn), .ref z3, .int (nI ik), .ref z4, .int (nI ln), .ref z5, .int (nI lo)]))] sz) (fun _ : Unit => [(z0, .inr (6, [.ref z1, .ref z2, .int (nI kn), .ref z3, .int (nI ik), .ref z4, .int (nI 0), .ref z5, .int (nI lo)]))])) (va_A [(z0, .inr (6, [.ref z1, .ref z2, .int (nI kn), .ref z3, .int (nI ik), .ref z4, .int (nI ln), .ref z5, .int (nI lo)]))] sz)) 0 0 (va_A [(z0, .inr (6, [.ref z1, .ref z2, .int (nI kn), .ref z3, .int (nI ik), .ref z4, .int (nI ln), .ref z5, .int (nI lo)]))] sz) := wrM (Qf := fun AA => va_Qi (fun (r : Int32) (_ : Unit) => r = nI ln ∧ (True)) (WB G AA (fun _ : Unit => [(z0, .inr (6, [.ref z1, .ref z2, .int (nI kn), .ref z3, .int (nI ik), .ref z4, .int (nI 0), .ref z5, .int (nI lo)]))])) AA) (C := RX6) rfl (by decide) rfl (Nat.le_of_ble_eq_true rfl) (fun pX eX sX mX bX meX cX ls AA hx hb hr hts hown hlk hml hin hP hK hD hAA hS hl => by
  have hl : lv_has ls 2 [(0, .ref z0)] := hl
  have hF6 : ∀ w ∈ wsX60, w ∈ wsX6_clearText := fun _ h => (List.mem_cons_of_mem _ (List.mem_append_right _ h))
  refine lv_aload_n hx hb dX6_clearText_0 rfl (lv_at hl 0 rfl) ?_
  refine va_get (D := G.1) (ci := 6) (v := .int (nI ln)) (C := RX6) (T := TX6) (N := 9) hx hb hts hF6 hown hK hP 0 rfl rfl 6 (by decide) (hts (.fieldLink RX6 121 "CousinSharesModel" "length" "I") (List.mem_of_getElem? (i := 1) rfl)) (fun _ h9 => h9) rfl dX6_clearText_1 ?_
  refine lv_istore_n (lv' := [(1, .int (nI ln)), (0, .ref z0)]) hx hb dX6_clearText_4 rfl hl (by decide) rfl (fun ls hl => ?_)
  refine lv_aload_n hx hb dX6_clearText_5 rfl (lv_at hl 1 rfl) ?_
  refine nr_const (v := 0) hx hb dX6_clearText_6 rfl ?_
  refine va_put (D := G.1) (ci := 6) (v := .int (nI 0)) (ty := .int) (C := RX6) (T := TX6) (N := 9) hx hb hts hF6 tyX6 tyX6_ok nmX6 hown hK hP hD hS 0 rfl rfl 6 (by decide) (hts (.fieldLink RX6 121 "CousinSharesModel" "length" "I") (List.mem_of_getElem? (i := 1) rfl)) (fun _ h9 => h9) rfl (by decide +kernel) rfl rfl (Nat.le_of_ble_eq_true rfl) dX6_clearText_7 (fun H locs hP hD hS => ?_)
  have hP : va_P G.1 vwCl [(z0, .inr (6, [.ref z1, .ref z2, .int (nI kn), .ref z3, .int (nI ik), .ref z4, .int (nI 0), .ref z5, .int (nI lo)]))] _ := hP
  have hD : va_D AA [(z0, .inr (6, [.ref z1, .ref z2, .int (nI kn), .ref z3, .int (nI ik), .ref z4, .int (nI 0), .ref z5, .int (nI lo)]))] := hD
  refine lv_iload_n hx hb dX6_clearText_10 rfl (lv_at hl 0 rfl) ?_
  exact wret hx hb hr hlk hK hS (()) hP hD (⟨rfl, trivial⟩) dX6_clearText_11)

set_option maxHeartbeats 4000000 in
set_option maxRecDepth 100000 in
theorem c_X6_undo (l : Launch) (G : gG) (z0 : Nat) (z1 : Nat) (z2 : Nat) (kn : Nat) (z3 : Nat) (ik : Nat) (z4 : Nat) (ln : Nat) (z5 : Nat) (lo : Nat) (M : Nat → Nat) (P : Nat → Nat) (hk : kn ≤ 4) (sz : Nat) : Met l yX6_undo wsX6_undo ({ frames := 0, cells := 0, slots := 0, locals := 0 } : Room) (WR G [(z0, .inr (6, [.ref z1, .ref z2, .int (nI kn), .ref z3, .int (nI ik), .ref z4, .int (nI ln), .ref z5, .int (nI lo)])), (z1, .inl (G.2 0, 404, .inl (nA M))), (z2, .inl (G.2 0, 808, .inl (nA P)))] sz [.ref z0]) (va_Qi (fun (r : Int32) (u : (Nat → Nat) × Nat) => match u with | ⟨m1, k1⟩ => (r, m1, k1) = aUndo M P kn) (WB G (va_A [(z0, .inr (6, [.ref z1, .ref z2, .int (nI kn), .ref z3, .int (nI ik), .ref z4, .int (nI ln), .ref z5, .int (nI lo)])), (z1, .inl (G.2 0, 404, .inl (nA M))), (z2, .inl (G.2 0, 808, .inl (nA P)))] sz) (fun u : (Nat → Nat) × Nat => match u with | ⟨m1, k1⟩ => [(z0, .inr (6, [.ref z1, .ref z2, .int (nI k1), .ref z3, .int (nI ik), .ref z4, .int (nI ln), .ref z5, .int (nI lo)])), (z1, .inl (G.2 0, 404, .inl (nA m1))), (z2, .inl (G.2 0, 808, .inl (nA P)))])) (va_A [(z0, .inr (6, [.ref z1, .ref z2, .int (nI kn), .ref z3, .int (nI ik), .ref z4, .int (nI ln), .ref z5, .int (nI lo)])), (z1, .inl (G.2 0, 404, .inl (nA M))), (z2, .inl (G.2 0, 808, .inl (nA P)))] sz)) 0 0 (va_A [(z0, .inr (6, [.ref z1, .ref z2, .int (nI kn), .ref z3, .int (nI ik), .ref z4, .int (nI ln), .ref z5, .int (nI lo)])), (z1, .inl (G.2 0, 404, .inl (nA M))), (z2, .inl (G.2 0, 808, .inl (nA P)))] sz) := wrM (Qf := fun AA => va_Qi (fun (r : Int32) (u : (Nat → Nat) × Nat) => match u with | ⟨m1, k1⟩ => (r, m1, k1) = aUndo M P kn) (WB G AA (fun u : (Nat → Nat) × Nat => match u with | ⟨m1, k1⟩ => [(z0, .inr (6, [.ref z1, .ref z2, .int (nI k1), .ref z3, .int (nI ik), .ref z4, .int (nI ln), .ref z5, .int (nI lo)])), (z1, .inl (G.2 0, 404, .inl (nA m1))), (z2, .inl (G.2 0, 808, .inl (nA P)))])) AA) (C := RX6) rfl (by decide) rfl (Nat.le_of_ble_eq_true rfl) (fun pX eX sX mX bX meX cX ls AA hx hb hr hts hown hlk hml hin hP hK hD hAA hS hl => by
  have hl : lv_has ls 2 [(0, .ref z0)] := hl
  have hF6 : ∀ w ∈ wsX60, w ∈ wsX6_undo := fun _ h => (List.mem_cons_of_mem _ (List.mem_append_right _ h))
  refine lv_aload_n hx hb dX6_undo_0 rfl (lv_at hl 0 rfl) ?_
  refine va_get (D := G.1) (ci := 6) (v := .int (nI kn)) (C := RX6) (T := TX6) (N := 9) hx hb hts hF6 hown hK hP 0 rfl rfl 2 (by decide) (hts (.fieldLink RX6 29 "CousinSharesModel" "known" "I") (List.mem_of_getElem? (i := 1) rfl)) (fun _ h9 => h9) rfl dX6_undo_1 ?_
  refine br_ne0 (tgt := 10) hx hb dX6_undo_4 (by decide) (by omega) (fun h1 => ?_) (fun h1 => ?_)
  · skip
    refine lv_aload_n hx hb dX6_undo_10 rfl (lv_at hl 0 rfl) ?_
    refine lv_dup hx hb dX6_undo_11 rfl ?_
    refine va_get (D := G.1) (ci := 6) (v := .int (nI kn)) (C := RX6) (T := TX6) (N := 9) hx hb hts hF6 hown hK hP 0 rfl rfl 2 (by decide) (hts (.fieldLink RX6 29 "CousinSharesModel" "known" "I") (List.mem_of_getElem? (i := 1) rfl)) (fun _ h9 => h9) rfl dX6_undo_12 ?_
    refine nr_const (v := 1) hx hb dX6_undo_15 rfl ?_
    refine nr_sub hx hb dX6_undo_16 (by omega) ?_
    refine va_put (D := G.1) (ci := 6) (v := .int (nI (kn - 1))) (ty := .int) (C := RX6) (T := TX6) (N := 9) hx hb hts hF6 tyX6 tyX6_ok nmX6 hown hK hP hD hS 0 rfl rfl 2 (by decide) (hts (.fieldLink RX6 29 "CousinSharesModel" "known" "I") (List.mem_of_getElem? (i := 1) rfl)) (fun _ h9 => h9) rfl (by decide +kernel) rfl rfl (Nat.le_of_ble_eq_true rfl) dX6_undo_17 (fun H locs hP hD hS => ?_)
    have hP : va_P G.1 vwCl [(z0, .inr (6, [.ref z1, .ref z2, .int (nI (kn - 1)), .ref z3, .int (nI ik), .ref z4, .int (nI ln), .ref z5, .int (nI lo)])), (z1, .inl (G.2 0, 404, .inl (nA M))), (z2, .inl (G.2 0, 808, .inl (nA P)))] _ := hP
    have hD : va_D AA [(z0, .inr (6, [.ref z1, .ref z2, .int (nI (kn - 1)), .ref z3, .int (nI ik), .ref z4, .int (nI ln), .ref z5, .int (nI lo)])), (z1, .inl (G.2 0, 404, .inl (nA M))), (z2, .inl (G.2 0, 808, .inl (nA P)))] := hD
    refine nr_const (v := 0) hx hb dX6_undo_20 rfl ?_
    refine lv_istore_n (lv' := [(1, .int (nI 0)), (0, .ref z0)]) hx hb dX6_undo_21 rfl hl (by decide) rfl (fun ls hl => ?_)
    rw [← cpA_0 M (blk P (kn - 1)) 0] at hP hD
    refine loop_w (T := Nat) (nL := 2) (fun i => i ≤ 202) (fun i => 202 - i) (fun i => [(0, .ref z0), (1, .int (nI i))]) (fun i => [(z0, .inr (6, [.ref z1, .ref z2, .int (nI (kn - 1)), .ref z3, .int (nI ik), .ref z4, .int (nI ln), .ref z5, .int (nI lo)])), (z1, .inl (G.2 0, 404, .inl (nA (cpA M (blk P (kn - 1)) 0 i)))), (z2, .inl (G.2 0, 808, .inl (nA P)))]) ?_ 0 (lv_sub hl [1, 0] rfl) hP hD hS (by omega)
    intro i ls H locs hl hP hD hS hi3 ih2
    have hi3_0 := hi3
    have hi3_0 : i ≤ 202 := hi3_0
    have hl : lv_has ls 2 [(0, .ref z0), (1, .int (nI i))] := hl
    have hP : va_P G.1 vwCl [(z0, .inr (6, [.ref z1, .ref z2, .int (nI (kn - 1)), .ref z3, .int (nI ik), .ref z4, .int (nI ln), .ref z5, .int (nI lo)])), (z1, .inl (G.2 0, 404, .inl (nA (cpA M (blk P (kn - 1)) 0 i)))), (z2, .inl (G.2 0, 808, .inl (nA P)))] _ := hP
    have hD : va_D AA [(z0, .inr (6, [.ref z1, .ref z2, .int (nI (kn - 1)), .ref z3, .int (nI ik), .ref z4, .int (nI ln), .ref z5, .int (nI lo)])), (z1, .inl (G.2 0, 404, .inl (nA (cpA M (blk P (kn - 1)) 0 i)))), (z2, .inl (G.2 0, 808, .inl (nA P)))] := hD
    refine lv_iload_n hx hb dX6_undo_22 rfl (lv_at hl 1 rfl) ?_
    refine nr_si (v := 202) hx hb dX6_undo_23 (by decide +kernel) ?_
    refine br_ige (tgt := 56) hx hb dX6_undo_26 (by decide) (by omega) (by decide) (fun h4 => ?_) (fun h4 => ?_)
    · skip
      refine lv_aload_n hx hb dX6_undo_56 rfl (lv_at hl 0 rfl) ?_
      refine va_get (D := G.1) (ci := 6) (v := .int (nI (kn - 1))) (C := RX6) (T := TX6) (N := 9) hx hb hts hF6 hown hK hP 0 rfl rfl 2 (by decide) (hts (.fieldLink RX6 29 "CousinSharesModel" "known" "I") (List.mem_of_getElem? (i := 1) rfl)) (fun _ h9 => h9) rfl dX6_undo_57 ?_
      have e2 : i = 202 := (by omega)
      subst e2
      exact wret hx hb hr hlk hK hS ((cpA M (blk P (kn - 1)) 0 202, kn - 1)) hP hD ((if_neg (by assumption)).symm) dX6_undo_60
    · skip
      refine lv_aload_n hx hb dX6_undo_29 rfl (lv_at hl 0 rfl) ?_
      refine va_get (D := G.1) (ci := 6) (v := .ref z1) (C := RX6) (T := TX6) (N := 9) hx hb hts hF6 hown hK hP 0 rfl rfl 0 (by decide) (hts (.fieldLink RX6 7 "CousinSharesModel" "s" "[I") (List.mem_of_getElem? (i := 2) rfl)) (fun _ h9 => h9) rfl dX6_undo_30 ?_
      refine lv_iload_n hx hb dX6_undo_33 rfl (lv_at hl 1 rfl) ?_
      refine lv_aload_n hx hb dX6_undo_34 rfl (lv_at hl 0 rfl) ?_
      refine va_get (D := G.1) (ci := 6) (v := .ref z2) (C := RX6) (T := TX6) (N := 9) hx hb hts hF6 hown hK hP 0 rfl rfl 1 (by decide) (hts (.fieldLink RX6 13 "CousinSharesModel" "past" "[I") (List.mem_of_getElem? (i := 3) rfl)) (fun _ h9 => h9) rfl dX6_undo_35 ?_
      refine nr_si (v := 202) hx hb dX6_undo_38 (by decide +kernel) ?_
      refine lv_aload_n hx hb dX6_undo_41 rfl (lv_at hl 0 rfl) ?_
      refine va_get (D := G.1) (ci := 6) (v := .int (nI (kn - 1))) (C := RX6) (T := TX6) (N := 9) hx hb hts hF6 hown hK hP 0 rfl rfl 2 (by decide) (hts (.fieldLink RX6 29 "CousinSharesModel" "known" "I") (List.mem_of_getElem? (i := 1) rfl)) (fun _ h9 => h9) rfl dX6_undo_42 ?_
      refine nr_mul hx hb dX6_undo_45 ?_
      refine lv_iload_n hx hb dX6_undo_46 rfl (lv_at hl 1 rfl) ?_
      refine nr_add hx hb dX6_undo_47 ?_
      refine nr_ald hx hb hK hP 2 rfl (by omega) (by decide) dX6_undo_48 ?_
      refine nr_top (y := nI (blk P (kn - 1) i)) (rfl) ?_
      refine nr_ast (ws' := [(z0, .inr (6, [.ref z1, .ref z2, .int (nI (kn - 1)), .ref z3, .int (nI ik), .ref z4, .int (nI ln), .ref z5, .int (nI lo)])), (z1, .inl (G.2 0, 404, .inl (nA (va_up (cpA M (blk P (kn - 1)) 0 i) i (blk P (kn - 1) i))))), (z2, .inl (G.2 0, 808, .inl (nA P)))]) hx hb hK hP hD hS 1 rfl (by omega) (by decide) dX6_undo_49 rfl (fun H locs hP hD hS => ?_)
      refine nr_inc (d := 1) (v := i + 1) (lv' := [(1, .int (nI (i + 1))), (0, .ref z0)]) hx hb dX6_undo_50 hl (k := 1) rfl rfl (by decide) rfl (fun ls hl => ?_)
      refine lv_goto (tgt := 22) hx hb dX6_undo_53 (by decide) ?_
      rw [cpU_s] at hP hD
      exact ih2 (i + 1) ls H locs (lv_sub hl [1, 0] rfl) hP hD hS (by omega) (by omega)
  · skip
    refine lv_bipush (v := (-5)) hx hb dX6_undo_7 (by decide +kernel) ?_
    exact wret hx hb hr hlk hK hS ((M, kn)) hP hD ((if_pos (by assumption)).symm) dX6_undo_9)

set_option maxHeartbeats 4000000 in
set_option maxRecDepth 100000 in
theorem c_X6_keep (l : Launch) (G : gG) (z0 : Nat) (z1 : Nat) (z2 : Nat) (kn : Nat) (z3 : Nat) (ik : Nat) (z4 : Nat) (ln : Nat) (z5 : Nat) (lo : Nat) (M : Nat → Nat) (Q : Nat → Nat) (hO : ∀ k, k < 24 → ow M 0 k < 8) (sz : Nat) : Met l yX6_keep wsX6_keep ({ frames := 1, cells := 0, slots := 0, locals := 24 } : Room) (WR G [(z0, .inr (6, [.ref z1, .ref z2, .int (nI kn), .ref z3, .int (nI ik), .ref z4, .int (nI ln), .ref z5, .int (nI lo)])), (z1, .inl (G.2 0, 404, .inl (nA M))), (z3, .inl (G.2 0, 202, .inl (nA Q)))] sz [.ref z0]) (va_Qi (fun (r : Int32) (_ : Unit) => r = nI (gvn M) ∧ (True)) (WB G (va_A [(z0, .inr (6, [.ref z1, .ref z2, .int (nI kn), .ref z3, .int (nI ik), .ref z4, .int (nI ln), .ref z5, .int (nI lo)])), (z1, .inl (G.2 0, 404, .inl (nA M))), (z3, .inl (G.2 0, 202, .inl (nA Q)))] sz) (fun _ : Unit => [(z0, .inr (6, [.ref z1, .ref z2, .int (nI kn), .ref z3, .int (nI 1), .ref z4, .int (nI ln), .ref z5, .int (nI lo)])), (z1, .inl (G.2 0, 404, .inl (nA M))), (z3, .inl (G.2 0, 202, .inl (nA (cpA Q M 0 202))))])) (va_A [(z0, .inr (6, [.ref z1, .ref z2, .int (nI kn), .ref z3, .int (nI ik), .ref z4, .int (nI ln), .ref z5, .int (nI lo)])), (z1, .inl (G.2 0, 404, .inl (nA M))), (z3, .inl (G.2 0, 202, .inl (nA Q)))] sz)) 0 0 (va_A [(z0, .inr (6, [.ref z1, .ref z2, .int (nI kn), .ref z3, .int (nI ik), .ref z4, .int (nI ln), .ref z5, .int (nI lo)])), (z1, .inl (G.2 0, 404, .inl (nA M))), (z3, .inl (G.2 0, 202, .inl (nA Q)))] sz) := wrM (Qf := fun AA => va_Qi (fun (r : Int32) (_ : Unit) => r = nI (gvn M) ∧ (True)) (WB G AA (fun _ : Unit => [(z0, .inr (6, [.ref z1, .ref z2, .int (nI kn), .ref z3, .int (nI 1), .ref z4, .int (nI ln), .ref z5, .int (nI lo)])), (z1, .inl (G.2 0, 404, .inl (nA M))), (z3, .inl (G.2 0, 202, .inl (nA (cpA Q M 0 202))))])) AA) (C := RX6) rfl (by decide) rfl (Nat.le_of_ble_eq_true rfl) (fun pX eX sX mX bX meX cX ls AA hx hb hr hts hown hlk hml hin hP hK hD hAA hS hl => by
  have hl : lv_has ls 2 [(0, .ref z0)] := hl
  have hF6 : ∀ w ∈ wsX60, w ∈ wsX6_keep := fun _ h => (List.mem_cons_of_mem _ (List.mem_append_right _ h))
  refine nr_const (v := 0) hx hb dX6_keep_0 rfl ?_
  refine lv_istore_n (lv' := [(1, .int (nI 0)), (0, .ref z0)]) hx hb dX6_keep_1 rfl hl (by decide) rfl (fun ls hl => ?_)
  rw [← cpA_0 Q M 0] at hP hD
  refine loop_w (T := Nat) (nL := 2) (fun i => i ≤ 202) (fun i => 202 - i) (fun i => [(0, .ref z0), (1, .int (nI i))]) (fun i => [(z0, .inr (6, [.ref z1, .ref z2, .int (nI kn), .ref z3, .int (nI ik), .ref z4, .int (nI ln), .ref z5, .int (nI lo)])), (z1, .inl (G.2 0, 404, .inl (nA M))), (z3, .inl (G.2 0, 202, .inl (nA (cpA Q M 0 i))))]) ?_ 0 (lv_sub hl [1, 0] rfl) hP hD hS (by omega)
  intro i ls H locs hl hP hD hS hi2 ih1
  have hi2_0 := hi2
  have hi2_0 : i ≤ 202 := hi2_0
  have hl : lv_has ls 2 [(0, .ref z0), (1, .int (nI i))] := hl
  have hP : va_P G.1 vwCl [(z0, .inr (6, [.ref z1, .ref z2, .int (nI kn), .ref z3, .int (nI ik), .ref z4, .int (nI ln), .ref z5, .int (nI lo)])), (z1, .inl (G.2 0, 404, .inl (nA M))), (z3, .inl (G.2 0, 202, .inl (nA (cpA Q M 0 i))))] _ := hP
  have hD : va_D AA [(z0, .inr (6, [.ref z1, .ref z2, .int (nI kn), .ref z3, .int (nI ik), .ref z4, .int (nI ln), .ref z5, .int (nI lo)])), (z1, .inl (G.2 0, 404, .inl (nA M))), (z3, .inl (G.2 0, 202, .inl (nA (cpA Q M 0 i))))] := hD
  refine lv_iload_n hx hb dX6_keep_2 rfl (lv_at hl 1 rfl) ?_
  refine nr_si (v := 202) hx hb dX6_keep_3 (by decide +kernel) ?_
  refine br_ige (tgt := 27) hx hb dX6_keep_6 (by decide) (by omega) (by decide) (fun h3 => ?_) (fun h3 => ?_)
  · skip
    have e : i = 202 := (by omega)
    rw [e] at hP hD
    have hP : va_P G.1 vwCl [(z0, .inr (6, [.ref z1, .ref z2, .int (nI kn), .ref z3, .int (nI ik), .ref z4, .int (nI ln), .ref z5, .int (nI lo)])), (z1, .inl (G.2 0, 404, .inl (nA M))), (z3, .inl (G.2 0, 202, .inl (nA (cpA Q M 0 202))))] _ := hP
    have hD : va_D AA [(z0, .inr (6, [.ref z1, .ref z2, .int (nI kn), .ref z3, .int (nI ik), .ref z4, .int (nI ln), .ref z5, .int (nI lo)])), (z1, .inl (G.2 0, 404, .inl (nA M))), (z3, .inl (G.2 0, 202, .inl (nA (cpA Q M 0 202))))] := hD
    refine lv_aload_n hx hb dX6_keep_27 rfl (lv_at hl 0 rfl) ?_
    refine nr_const (v := 1) hx hb dX6_keep_28 rfl ?_
    refine va_put (D := G.1) (ci := 6) (v := .int (nI 1)) (ty := .boolean) (C := RX6) (T := TX6) (N := 9) hx hb hts hF6 tyX6 tyX6_ok nmX6 hown hK hP hD hS 0 rfl rfl 4 (by decide) (hts (.fieldLink RX6 154 "CousinSharesModel" "isKept" "Z") (List.mem_of_getElem? (i := 3) rfl)) (fun _ h9 => h9) rfl (by decide +kernel) rfl rfl (Nat.le_of_ble_eq_true rfl) dX6_keep_29 (fun H locs hP hD hS => ?_)
    have hP : va_P G.1 vwCl [(z0, .inr (6, [.ref z1, .ref z2, .int (nI kn), .ref z3, .int (nI 1), .ref z4, .int (nI ln), .ref z5, .int (nI lo)])), (z1, .inl (G.2 0, 404, .inl (nA M))), (z3, .inl (G.2 0, 202, .inl (nA (cpA Q M 0 202))))] _ := hP
    have hD : va_D AA [(z0, .inr (6, [.ref z1, .ref z2, .int (nI kn), .ref z3, .int (nI 1), .ref z4, .int (nI ln), .ref z5, .int (nI lo)])), (z1, .inl (G.2 0, 404, .inl (nA M))), (z3, .inl (G.2 0, 202, .inl (nA (cpA Q M 0 202))))] := hD
    refine lv_aload_n hx hb dX6_keep_32 rfl (lv_at hl 0 rfl) ?_
    refine lv_iconst (v := (-1)) hx hb dX6_keep_33 (by decide +kernel) ?_
    refine rcV (As := [.int (-1)]) (wl := [(z0, .inr (6, [.ref z1, .ref z2, .int (nI kn), .ref z3, .int (nI 1), .ref z4, .int (nI ln), .ref z5, .int (nI lo)])), (z1, .inl (G.2 0, 404, .inl (nA M)))]) ⟨hx, hb, hml, hown, hts⟩ (c_X6_plotsOfm l G z0 z1 [.ref z1, .ref z2, .int (nI kn), .ref z3, .int (nI 1), .ref z4, .int (nI ln), .ref z5, .int (nI lo)] M rfl hO) (cwV 1 hts gX6_keep_X6_plotsOf rfl rfl rfl (by decide +kernel) ⟨Nat.le_of_ble_eq_true rfl, Nat.le_of_ble_eq_true rfl⟩) hK (hP.sub [0, 1] rfl) 6 0 rfl rfl rfl hl.1 rfl (Nat.le_of_ble_eq_true rfl) dX6_keep_34 ⟨Nat.zero_le _, Nat.zero_le _⟩ ?_
    exact wret hx hb hr hlk hK hS (()) hP hD (⟨rfl, trivial⟩) dX6_keep_37
  · skip
    refine lv_aload_n hx hb dX6_keep_9 rfl (lv_at hl 0 rfl) ?_
    refine va_get (D := G.1) (ci := 6) (v := .ref z3) (C := RX6) (T := TX6) (N := 9) hx hb hts hF6 hown hK hP 0 rfl rfl 3 (by decide) (hts (.fieldLink RX6 16 "CousinSharesModel" "snap" "[I") (List.mem_of_getElem? (i := 1) rfl)) (fun _ h9 => h9) rfl dX6_keep_10 ?_
    refine lv_iload_n hx hb dX6_keep_13 rfl (lv_at hl 1 rfl) ?_
    refine lv_aload_n hx hb dX6_keep_14 rfl (lv_at hl 0 rfl) ?_
    refine va_get (D := G.1) (ci := 6) (v := .ref z1) (C := RX6) (T := TX6) (N := 9) hx hb hts hF6 hown hK hP 0 rfl rfl 0 (by decide) (hts (.fieldLink RX6 7 "CousinSharesModel" "s" "[I") (List.mem_of_getElem? (i := 2) rfl)) (fun _ h9 => h9) rfl dX6_keep_15 ?_
    refine lv_iload_n hx hb dX6_keep_18 rfl (lv_at hl 1 rfl) ?_
    refine nr_ald hx hb hK hP 1 rfl (by omega) (by decide) dX6_keep_19 ?_
    refine nr_ast (ws' := [(z0, .inr (6, [.ref z1, .ref z2, .int (nI kn), .ref z3, .int (nI ik), .ref z4, .int (nI ln), .ref z5, .int (nI lo)])), (z1, .inl (G.2 0, 404, .inl (nA M))), (z3, .inl (G.2 0, 202, .inl (nA (va_up (cpA Q M 0 i) i (M i)))))]) hx hb hK hP hD hS 2 rfl (by omega) (by decide) dX6_keep_20 rfl (fun H locs hP hD hS => ?_)
    refine nr_inc (d := 1) (v := i + 1) (lv' := [(1, .int (nI (i + 1))), (0, .ref z0)]) hx hb dX6_keep_21 hl (k := 1) rfl rfl (by decide) rfl (fun ls hl => ?_)
    refine lv_goto (tgt := 2) hx hb dX6_keep_24 (by decide) ?_
    rw [cpU_s] at hP hD
    exact ih1 (i + 1) ls H locs (lv_sub hl [1, 0] rfl) hP hD hS (by omega) (by omega))

set_option maxHeartbeats 4000000 in
set_option maxRecDepth 100000 in
theorem c_X6_restore (l : Launch) (G : gG) (z0 : Nat) (z1 : Nat) (z2 : Nat) (kn : Nat) (z3 : Nat) (ik : Nat) (z4 : Nat) (ln : Nat) (z5 : Nat) (lo : Nat) (M : Nat → Nat) (P : Nat → Nat) (Q : Nat → Nat) (hk : kn ≤ 4) (hik : ik < 2) (hQ : ¬ ik = 0 → ∀ k, k < 24 → ow Q 0 k < 8) (sz : Nat) : Met l yX6_restore wsX6_restore ({ frames := 1, cells := 0, slots := 0, locals := 24 } : Room) (WR G [(z0, .inr (6, [.ref z1, .ref z2, .int (nI kn), .ref z3, .int (nI ik), .ref z4, .int (nI ln), .ref z5, .int (nI lo)])), (z1, .inl (G.2 0, 404, .inl (nA M))), (z2, .inl (G.2 0, 808, .inl (nA P))), (z3, .inl (G.2 0, 202, .inl (nA Q)))] sz [.ref z0]) (va_Qi (fun (r : Int32) (u : (Nat → Nat) × (Nat → Nat) × Nat) => match u with | ⟨m1, p1, k1⟩ => (r, m1, p1, k1) = aRestore M P Q kn ik) (WB G (va_A [(z0, .inr (6, [.ref z1, .ref z2, .int (nI kn), .ref z3, .int (nI ik), .ref z4, .int (nI ln), .ref z5, .int (nI lo)])), (z1, .inl (G.2 0, 404, .inl (nA M))), (z2, .inl (G.2 0, 808, .inl (nA P))), (z3, .inl (G.2 0, 202, .inl (nA Q)))] sz) (fun u : (Nat → Nat) × (Nat → Nat) × Nat => match u with | ⟨m1, p1, k1⟩ => [(z0, .inr (6, [.ref z1, .ref z2, .int (nI k1), .ref z3, .int (nI ik), .ref z4, .int (nI ln), .ref z5, .int (nI lo)])), (z1, .inl (G.2 0, 404, .inl (nA m1))), (z2, .inl (G.2 0, 808, .inl (nA p1))), (z3, .inl (G.2 0, 202, .inl (nA Q)))])) (va_A [(z0, .inr (6, [.ref z1, .ref z2, .int (nI kn), .ref z3, .int (nI ik), .ref z4, .int (nI ln), .ref z5, .int (nI lo)])), (z1, .inl (G.2 0, 404, .inl (nA M))), (z2, .inl (G.2 0, 808, .inl (nA P))), (z3, .inl (G.2 0, 202, .inl (nA Q)))] sz)) 0 0 (va_A [(z0, .inr (6, [.ref z1, .ref z2, .int (nI kn), .ref z3, .int (nI ik), .ref z4, .int (nI ln), .ref z5, .int (nI lo)])), (z1, .inl (G.2 0, 404, .inl (nA M))), (z2, .inl (G.2 0, 808, .inl (nA P))), (z3, .inl (G.2 0, 202, .inl (nA Q)))] sz) := wrM (Qf := fun AA => va_Qi (fun (r : Int32) (u : (Nat → Nat) × (Nat → Nat) × Nat) => match u with | ⟨m1, p1, k1⟩ => (r, m1, p1, k1) = aRestore M P Q kn ik) (WB G AA (fun u : (Nat → Nat) × (Nat → Nat) × Nat => match u with | ⟨m1, p1, k1⟩ => [(z0, .inr (6, [.ref z1, .ref z2, .int (nI k1), .ref z3, .int (nI ik), .ref z4, .int (nI ln), .ref z5, .int (nI lo)])), (z1, .inl (G.2 0, 404, .inl (nA m1))), (z2, .inl (G.2 0, 808, .inl (nA p1))), (z3, .inl (G.2 0, 202, .inl (nA Q)))])) AA) (C := RX6) rfl (by decide) rfl (Nat.le_of_ble_eq_true rfl) (fun pX eX sX mX bX meX cX ls AA hx hb hr hts hown hlk hml hin hP hK hD hAA hS hl => by
  have hl : lv_has ls 2 [(0, .ref z0)] := hl
  have hF6 : ∀ w ∈ wsX60, w ∈ wsX6_restore := fun _ h => (List.mem_cons_of_mem _ (List.mem_append_right _ h))
  refine lv_aload_n hx hb dX6_restore_0 rfl (lv_at hl 0 rfl) ?_
  refine va_get (D := G.1) (ci := 6) (v := .int (nI ik)) (C := RX6) (T := TX6) (N := 9) hx hb hts hF6 hown hK hP 0 rfl rfl 4 (by decide) (hts (.fieldLink RX6 154 "CousinSharesModel" "isKept" "Z") (List.mem_of_getElem? (i := 1) rfl)) (fun _ h9 => h9) rfl dX6_restore_1 ?_
  refine br_ne0 (tgt := 10) hx hb dX6_restore_4 (by decide) (by omega) (fun h1 => ?_) (fun h1 => ?_)
  · skip
    refine lv_aload_n hx hb dX6_restore_10 rfl (lv_at hl 0 rfl) ?_
    refine wcVv (As := []) (ws := [(z0, .inr (6, [.ref z1, .ref z2, .int (nI kn), .ref z3, .int (nI ik), .ref z4, .int (nI ln), .ref z5, .int (nI lo)])), (z1, .inl (G.2 0, 404, .inl (nA M))), (z2, .inl (G.2 0, 808, .inl (nA P))), (z3, .inl (G.2 0, 202, .inl (nA Q)))]) (wc := [(z0, .inr (6, [.ref z1, .ref z2, .int (nI kn), .ref z3, .int (nI ik), .ref z4, .int (nI ln), .ref z5, .int (nI lo)])), (z1, .inl (G.2 0, 404, .inl (nA M))), (z2, .inl (G.2 0, 808, .inl (nA P)))]) (wr := [(z3, .inl (G.2 0, 202, .inl (nA Q)))]) (wn := fun _ => [(z0, .inr (6, [.ref z1, .ref z2, .int (nI (pushK kn)), .ref z3, .int (nI ik), .ref z4, .int (nI ln), .ref z5, .int (nI lo)])), (z1, .inl (G.2 0, 404, .inl (nA M))), (z2, .inl (G.2 0, 808, .inl (nA (pushP P M kn)))), (z3, .inl (G.2 0, 202, .inl (nA Q)))]) ⟨hx, hb, hml, hown, hts⟩ (c_X6_remembers l G z0 z1 z2 kn z3 ik z4 ln z5 lo M P (by omega) _) (cwV 0 hts gX6_restore_X6_remembers rfl rfl rfl (by decide +kernel) ⟨Nat.le_of_ble_eq_true rfl, Nat.le_of_ble_eq_true rfl⟩) hK hP hD hS hAA [0, 1, 2] [3] [1, 2, 3, 0] rfl rfl rfl rfl (by decide) rfl (fun _ => rfl) 6 0 rfl rfl rfl hl.1 rfl (Nat.le_of_ble_eq_true rfl) dX6_restore_11 ⟨by first | exact Nat.le_of_ble_eq_true rfl | omega, by first | exact Nat.le_of_ble_eq_true rfl | omega⟩ (fun uu H locs hw2 hP hD hS => ?_)
    have hP : va_P G.1 vwCl [(z0, .inr (6, [.ref z1, .ref z2, .int (nI (pushK kn)), .ref z3, .int (nI ik), .ref z4, .int (nI ln), .ref z5, .int (nI lo)])), (z1, .inl (G.2 0, 404, .inl (nA M))), (z2, .inl (G.2 0, 808, .inl (nA (pushP P M kn)))), (z3, .inl (G.2 0, 202, .inl (nA Q)))] _ := hP
    have hD : va_D AA [(z0, .inr (6, [.ref z1, .ref z2, .int (nI (pushK kn)), .ref z3, .int (nI ik), .ref z4, .int (nI ln), .ref z5, .int (nI lo)])), (z1, .inl (G.2 0, 404, .inl (nA M))), (z2, .inl (G.2 0, 808, .inl (nA (pushP P M kn)))), (z3, .inl (G.2 0, 202, .inl (nA Q)))] := hD
    refine nr_const (v := 0) hx hb dX6_restore_14 rfl ?_
    refine lv_istore_n (lv' := [(1, .int (nI 0)), (0, .ref z0)]) hx hb dX6_restore_15 rfl hl (by decide) rfl (fun ls hl => ?_)
    rw [← cpA_0 M Q 0] at hP hD
    refine loop_w (T := Nat) (nL := 2) (fun i => i ≤ 202) (fun i => 202 - i) (fun i => [(0, .ref z0), (1, .int (nI i))]) (fun i => [(z0, .inr (6, [.ref z1, .ref z2, .int (nI (pushK kn)), .ref z3, .int (nI ik), .ref z4, .int (nI ln), .ref z5, .int (nI lo)])), (z1, .inl (G.2 0, 404, .inl (nA (cpA M Q 0 i)))), (z2, .inl (G.2 0, 808, .inl (nA (pushP P M kn)))), (z3, .inl (G.2 0, 202, .inl (nA Q)))]) ?_ 0 (lv_sub hl [1, 0] rfl) hP hD hS (by omega)
    intro i ls H locs hl hP hD hS hi5 ih4
    have hi5_0 := hi5
    have hi5_0 : i ≤ 202 := hi5_0
    have hl : lv_has ls 2 [(0, .ref z0), (1, .int (nI i))] := hl
    have hP : va_P G.1 vwCl [(z0, .inr (6, [.ref z1, .ref z2, .int (nI (pushK kn)), .ref z3, .int (nI ik), .ref z4, .int (nI ln), .ref z5, .int (nI lo)])), (z1, .inl (G.2 0, 404, .inl (nA (cpA M Q 0 i)))), (z2, .inl (G.2 0, 808, .inl (nA (pushP P M kn)))), (z3, .inl (G.2 0, 202, .inl (nA Q)))] _ := hP
    have hD : va_D AA [(z0, .inr (6, [.ref z1, .ref z2, .int (nI (pushK kn)), .ref z3, .int (nI ik), .ref z4, .int (nI ln), .ref z5, .int (nI lo)])), (z1, .inl (G.2 0, 404, .inl (nA (cpA M Q 0 i)))), (z2, .inl (G.2 0, 808, .inl (nA (pushP P M kn)))), (z3, .inl (G.2 0, 202, .inl (nA Q)))] := hD
    refine lv_iload_n hx hb dX6_restore_16 rfl (lv_at hl 1 rfl) ?_
    refine nr_si (v := 202) hx hb dX6_restore_17 (by decide +kernel) ?_
    refine br_ige (tgt := 41) hx hb dX6_restore_20 (by decide) (by omega) (by decide) (fun h6 => ?_) (fun h6 => ?_)
    · skip
      have e2 : i = 202 := (by omega)
      subst e2
      have hl : lv_has ls 2 [(0, .ref z0)] := lv_sub hl [0] rfl
      have hP : va_P G.1 vwCl [(z0, .inr (6, [.ref z1, .ref z2, .int (nI (pushK kn)), .ref z3, .int (nI ik), .ref z4, .int (nI ln), .ref z5, .int (nI lo)])), (z1, .inl (G.2 0, 404, .inl (nA (cpA M Q 0 202)))), (z2, .inl (G.2 0, 808, .inl (nA (pushP P M kn)))), (z3, .inl (G.2 0, 202, .inl (nA Q)))] _ := hP
      have hD : va_D AA [(z0, .inr (6, [.ref z1, .ref z2, .int (nI (pushK kn)), .ref z3, .int (nI ik), .ref z4, .int (nI ln), .ref z5, .int (nI lo)])), (z1, .inl (G.2 0, 404, .inl (nA (cpA M Q 0 202)))), (z2, .inl (G.2 0, 808, .inl (nA (pushP P M kn)))), (z3, .inl (G.2 0, 202, .inl (nA Q)))] := hD
      refine lv_aload_n hx hb dX6_restore_41 rfl (lv_at hl 0 rfl) ?_
      refine lv_iconst (v := (-1)) hx hb dX6_restore_42 (by decide +kernel) ?_
      refine rcV (As := [.int (-1)]) (wl := [(z0, .inr (6, [.ref z1, .ref z2, .int (nI (pushK kn)), .ref z3, .int (nI ik), .ref z4, .int (nI ln), .ref z5, .int (nI lo)])), (z1, .inl (G.2 0, 404, .inl (nA (cpA M Q 0 202))))]) ⟨hx, hb, hml, hown, hts⟩ (c_X6_plotsOfm l G z0 z1 [.ref z1, .ref z2, .int (nI (pushK kn)), .ref z3, .int (nI ik), .ref z4, .int (nI ln), .ref z5, .int (nI lo)] (cpA M Q 0 202) rfl (fun k hk => by rw [cpA_ow hk]; exact hQ (by assumption) k hk)) (cwV 1 hts gX6_restore_X6_plotsOf rfl rfl rfl (by decide +kernel) ⟨Nat.le_of_ble_eq_true rfl, Nat.le_of_ble_eq_true rfl⟩) hK (hP.sub [0, 1] rfl) 6 0 rfl rfl rfl hl.1 rfl (Nat.le_of_ble_eq_true rfl) dX6_restore_43 ⟨Nat.zero_le _, Nat.zero_le _⟩ ?_
      exact wret hx hb hr hlk hK hS ((cpA M Q 0 202, pushP P M kn, pushK kn)) hP hD ((if_neg (by assumption)).symm) dX6_restore_46
    · skip
      refine lv_aload_n hx hb dX6_restore_23 rfl (lv_at hl 0 rfl) ?_
      refine va_get (D := G.1) (ci := 6) (v := .ref z1) (C := RX6) (T := TX6) (N := 9) hx hb hts hF6 hown hK hP 0 rfl rfl 0 (by decide) (hts (.fieldLink RX6 7 "CousinSharesModel" "s" "[I") (List.mem_of_getElem? (i := 2) rfl)) (fun _ h9 => h9) rfl dX6_restore_24 ?_
      refine lv_iload_n hx hb dX6_restore_27 rfl (lv_at hl 1 rfl) ?_
      refine lv_aload_n hx hb dX6_restore_28 rfl (lv_at hl 0 rfl) ?_
      refine va_get (D := G.1) (ci := 6) (v := .ref z3) (C := RX6) (T := TX6) (N := 9) hx hb hts hF6 hown hK hP 0 rfl rfl 3 (by decide) (hts (.fieldLink RX6 16 "CousinSharesModel" "snap" "[I") (List.mem_of_getElem? (i := 3) rfl)) (fun _ h9 => h9) rfl dX6_restore_29 ?_
      refine lv_iload_n hx hb dX6_restore_32 rfl (lv_at hl 1 rfl) ?_
      refine nr_ald hx hb hK hP 3 rfl (by omega) (by decide) dX6_restore_33 ?_
      refine nr_ast (ws' := [(z0, .inr (6, [.ref z1, .ref z2, .int (nI (pushK kn)), .ref z3, .int (nI ik), .ref z4, .int (nI ln), .ref z5, .int (nI lo)])), (z1, .inl (G.2 0, 404, .inl (nA (va_up (cpA M Q 0 i) i (Q i))))), (z2, .inl (G.2 0, 808, .inl (nA (pushP P M kn)))), (z3, .inl (G.2 0, 202, .inl (nA Q)))]) hx hb hK hP hD hS 1 rfl (by omega) (by decide) dX6_restore_34 rfl (fun H locs hP hD hS => ?_)
      refine nr_inc (d := 1) (v := i + 1) (lv' := [(1, .int (nI (i + 1))), (0, .ref z0)]) hx hb dX6_restore_35 hl (k := 1) rfl rfl (by decide) rfl (fun ls hl => ?_)
      refine lv_goto (tgt := 16) hx hb dX6_restore_38 (by decide) ?_
      rw [cpU_s] at hP hD
      exact ih4 (i + 1) ls H locs (lv_sub hl [1, 0] rfl) hP hD hS (by omega) (by omega)
  · skip
    refine lv_bipush (v := (-5)) hx hb dX6_restore_7 (by decide +kernel) ?_
    exact wret hx hb hr hlk hK hS ((M, P, kn)) hP hD ((if_pos (by assumption)).symm) dX6_restore_9)

set_option maxHeartbeats 4000000 in
set_option maxRecDepth 100000 in
theorem c_X6_plot (l : Launch) (G : gG) (z0 : Nat) (z1 : Nat) (fs : List Value) (M : Nat → Nat) (x : Int32) (y : Int32) (hf0 : fs[0]? = some (.ref z1)) (h0 : ok M) (hO : ∀ k, k < 24 → ow M 0 k < 8) : Met l yX6_plot wsX6_plot ({ frames := 2, cells := 0, slots := 0, locals := 42 } : Room) (RD G [(z0, .inr (6, fs)), (z1, .inl (G.2 0, 404, .inl (nA M)))] [.ref z0, .int x, .int y]) (QcRead (aPlot M x y)) 0 0 noF := rdM (C := RX6) rfl (by decide) rfl (Nat.le_of_ble_eq_true rfl) (fun pX eX sX mX bX meX cX ls hx hb hr hts hown hlk hml hP hK hl => by
  have hl : lv_has ls 3 [(0, .ref z0), (1, .int x), (2, .int y)] := hl
  have hF6 : ∀ w ∈ wsX60, w ∈ wsX6_plot := fun _ h => (List.mem_cons_of_mem _ (List.mem_append_right _ h))
  refine lv_iload_n hx hb dX6_plot_0 rfl (lv_at hl 1 rfl) ?_
  refine rcS (As := [.int x]) ⟨hx, hb, hml, hown, hts⟩ (c_X6_isPlot l x) (va_cwS 1 hts gX6_plot_X6_isPlot rfl rfl rfl (by decide +kernel) ⟨Nat.le_of_ble_eq_true rfl, Nat.le_of_ble_eq_true rfl⟩) rfl hl.1 rfl (Nat.le_of_ble_eq_true rfl) dX6_plot_1 ⟨Nat.zero_le _, Nat.zero_le _⟩ ?_
  refine br_neb (tgt := 9) hx hb dX6_plot_4 (by decide) (fun h1 => ?_) (fun h1 => ?_)
  · skip
    refine lv_iload_n hx hb dX6_plot_9 rfl (lv_at hl 2 rfl) ?_
    refine nr_const (v := 0) hx hb dX6_plot_10 rfl ?_
    refine nr_bi (v := 11) hx hb dX6_plot_11 (by decide +kernel) ?_
    refine rcS (As := [.int y, .int (nI 0), .int (nI 11)]) ⟨hx, hb, hml, hown, hts⟩ (c_X6_in l y (nI 0) (nI 11)) (va_cwS 3 hts gX6_plot_X6_in rfl rfl rfl (by decide +kernel) ⟨Nat.le_of_ble_eq_true rfl, Nat.le_of_ble_eq_true rfl⟩) rfl hl.1 rfl (Nat.le_of_ble_eq_true rfl) dX6_plot_13 ⟨Nat.zero_le _, Nat.zero_le _⟩ ?_
    refine br_neb (tgt := 22) hx hb dX6_plot_16 (by decide) (fun h2 => ?_) (fun h2 => ?_)
    · skip
      obtain ⟨a, hr_a, rfl⟩ := rg_of (x := x) (n := 23) (by assumption) (by decide)
      obtain ⟨b, hr_b, rfl⟩ := rg_of (x := y) (n := 11) (by assumption) (by decide)
      have hl : lv_has ls 3 [(0, .ref z0), (1, .int (nI a)), (2, .int (nI b))] := hl
      refine lv_iload_n hx hb dX6_plot_22 rfl (lv_at hl 2 rfl) ?_
      refine nr_const (v := 4) hx hb dX6_plot_23 rfl ?_
      refine br_ige (tgt := 42) hx hb dX6_plot_24 (by decide) (by omega) (by decide) (fun h3 => ?_) (fun h3 => ?_)
      · skip
        refine lv_iload_n hx hb dX6_plot_42 rfl (lv_at hl 2 rfl) ?_
        refine nr_const (v := 4) hx hb dX6_plot_43 rfl ?_
        refine br_ine (tgt := 59) hx hb dX6_plot_44 (by decide) (by omega) (by decide) (fun h4 => ?_) (fun h4 => ?_)
        · skip
          refine lv_aload_n hx hb dX6_plot_59 rfl (lv_at hl 0 rfl) ?_
          refine lv_iload_n hx hb dX6_plot_60 rfl (lv_at hl 2 rfl) ?_
          refine nr_const (v := 5) hx hb dX6_plot_61 rfl ?_
          refine nr_sub hx hb dX6_plot_62 (by omega) ?_
          refine lv_iload_n hx hb dX6_plot_63 rfl (lv_at hl 1 rfl) ?_
          refine rcV (As := [.int (nI (b - 5)), .int (nI a)]) (wl := [(z0, .inr (6, fs)), (z1, .inl (G.2 0, 404, .inl (nA M)))]) ⟨hx, hb, hml, hown, hts⟩ (c_X6_worth l G z0 z1 fs M (b - 5) a hf0 (by omega) (by omega)) (cwV 2 hts gX6_plot_X6_worth rfl rfl rfl (by decide +kernel) ⟨Nat.le_of_ble_eq_true rfl, Nat.le_of_ble_eq_true rfl⟩) hK hP 6 0 rfl rfl rfl hl.1 rfl (Nat.le_of_ble_eq_true rfl) dX6_plot_64 ⟨Nat.zero_le _, Nat.zero_le _⟩ ?_
          exact rret hx hb hr hlk (by unfold aPlot; rw [if_pos (by assumption), if_pos (by assumption), nn_n (by omega), nn_n (by omega)]; first | (rw [if_pos (by omega)]; try rfl) | (rw [if_neg (by omega), if_pos (by omega)]; try rfl) | (rw [if_neg (by omega), if_neg (by omega)]; try rfl)) dX6_plot_67
        · skip
          refine lv_aload_n hx hb dX6_plot_47 rfl (lv_at hl 0 rfl) ?_
          refine va_get (D := G.1) (ci := 6) (v := .ref z1) (C := RX6) (T := TX6) (N := 9) hx hb hts hF6 hown hK hP 0 rfl rfl 0 (by decide) (hts (.fieldLink RX6 7 "CousinSharesModel" "s" "[I") (List.mem_of_getElem? (i := 1) rfl)) (fun _ h9 => h9) hf0 dX6_plot_48 ?_
          refine nr_bi (v := 96) hx hb dX6_plot_51 (by decide +kernel) ?_
          refine lv_iload_n hx hb dX6_plot_53 rfl (lv_at hl 1 rfl) ?_
          refine nr_add hx hb dX6_plot_54 ?_
          refine nr_ald hx hb hK hP 1 rfl (by omega) (by decide) dX6_plot_55 ?_
          refine lv_goto (tgt := 67) hx hb dX6_plot_56 (by decide) ?_
          exact rret hx hb hr hlk (by unfold aPlot; rw [if_pos (by assumption), if_pos (by assumption), nn_n (by omega), nn_n (by omega)]; first | (rw [if_pos (by omega)]; try rfl) | (rw [if_neg (by omega), if_pos (by omega)]; try rfl) | (rw [if_neg (by omega), if_neg (by omega)]; try rfl)) dX6_plot_67
      · skip
        have hb1 := h0.1 (0 + 4 * a + b) (by omega)
        refine lv_aload_n hx hb dX6_plot_27 rfl (lv_at hl 0 rfl) ?_
        refine va_get (D := G.1) (ci := 6) (v := .ref z1) (C := RX6) (T := TX6) (N := 9) hx hb hts hF6 hown hK hP 0 rfl rfl 0 (by decide) (hts (.fieldLink RX6 7 "CousinSharesModel" "s" "[I") (List.mem_of_getElem? (i := 1) rfl)) (fun _ h9 => h9) hf0 dX6_plot_28 ?_
        refine nr_const (v := 0) hx hb dX6_plot_31 rfl ?_
        refine nr_const (v := 4) hx hb dX6_plot_32 rfl ?_
        refine lv_iload_n hx hb dX6_plot_33 rfl (lv_at hl 1 rfl) ?_
        refine nr_mul hx hb dX6_plot_34 ?_
        refine nr_add hx hb dX6_plot_35 ?_
        refine lv_iload_n hx hb dX6_plot_36 rfl (lv_at hl 2 rfl) ?_
        refine nr_add hx hb dX6_plot_37 ?_
        refine nr_ald hx hb hK hP 1 rfl (by omega) (by decide) dX6_plot_38 ?_
        refine lv_goto (tgt := 67) hx hb dX6_plot_39 (by decide) ?_
        exact rret hx hb hr hlk (by unfold aPlot; rw [if_pos (by assumption), if_pos (by assumption), nn_n (by omega), nn_n (by omega)]; first | (rw [if_pos (by omega)]; try rfl) | (rw [if_neg (by omega), if_pos (by omega)]; try rfl) | (rw [if_neg (by omega), if_neg (by omega)]; try rfl)) dX6_plot_67
    · skip
      refine lv_bipush (v := (-2)) hx hb dX6_plot_19 (by decide +kernel) ?_
      exact rret hx hb hr hlk (by unfold aPlot; rw [if_pos (by assumption), if_neg (by assumption)]) dX6_plot_21
  · skip
    refine lv_iconst (v := (-1)) hx hb dX6_plot_7 (by decide +kernel) ?_
    exact rret hx hb hr hlk (by unfold aPlot; rw [if_neg (by assumption)]) dX6_plot_8)

set_option maxHeartbeats 4000000 in
set_option maxRecDepth 100000 in
theorem c_X6_cousin (l : Launch) (G : gG) (z0 : Nat) (z1 : Nat) (fs : List Value) (M : Nat → Nat) (x : Int32) (y : Int32) (hf0 : fs[0]? = some (.ref z1)) (h0 : ok M) (hO : ∀ k, k < 24 → ow M 0 k < 8) : Met l yX6_cousin wsX6_cousin ({ frames := 5, cells := 0, slots := 0, locals := 122 } : Room) (RD G [(z0, .inr (6, fs)), (z1, .inl (G.2 0, 404, .inl (nA M)))] [.ref z0, .int x, .int y]) (QcRead (aCousin M x y)) 0 0 noF := rdM (C := RX6) rfl (by decide) rfl (Nat.le_of_ble_eq_true rfl) (fun pX eX sX mX bX meX cX ls hx hb hr hts hown hlk hml hP hK hl => by
  have hl : lv_has ls 3 [(0, .ref z0), (1, .int x), (2, .int y)] := hl
  have hF6 : ∀ w ∈ wsX60, w ∈ wsX6_cousin := fun _ h => (List.mem_cons_of_mem _ (List.mem_append_right _ h))
  refine lv_iload_n hx hb dX6_cousin_0 rfl (lv_at hl 1 rfl) ?_
  refine rcS (As := [.int x]) ⟨hx, hb, hml, hown, hts⟩ (c_X6_isCousin l x) (va_cwS 1 hts gX6_cousin_X6_isCousin rfl rfl rfl (by decide +kernel) ⟨Nat.le_of_ble_eq_true rfl, Nat.le_of_ble_eq_true rfl⟩) rfl hl.1 rfl (Nat.le_of_ble_eq_true rfl) dX6_cousin_1 ⟨Nat.zero_le _, Nat.zero_le _⟩ ?_
  refine br_neb (tgt := 9) hx hb dX6_cousin_4 (by decide) (fun h1 => ?_) (fun h1 => ?_)
  · skip
    obtain ⟨a, hr_a, rfl⟩ := rg_of (x := x) (n := 6) (by assumption) (by decide)
    have hl : lv_has ls 3 [(0, .ref z0), (1, .int (nI a)), (2, .int y)] := hl
    refine lv_iload_n hx hb dX6_cousin_9 rfl (lv_at hl 2 rfl) ?_
    by_cases h2 : rg y 12
    · skip
      obtain ⟨swy, hr_swy, rfl⟩ := rg_of (x := y) (n := 12) (by assumption) (by decide)
      have hl : lv_has ls 3 [(0, .ref z0), (1, .int (nI a)), (2, .int (nI swy))] := hl
      rcases (show swy = 0 ∨ swy = 1 ∨ swy = 2 ∨ swy = 3 ∨ swy = 4 ∨ swy = 5 ∨ swy = 6 ∨ swy = 7 ∨ swy = 8 ∨ swy = 9 ∨ swy = 10 ∨ swy = 11 ∨ swy = 12 ∨ (¬ swy = 0 ∧ ¬ swy = 1 ∧ ¬ swy = 2 ∧ ¬ swy = 3 ∧ ¬ swy = 4 ∧ ¬ swy = 5 ∧ ¬ swy = 6 ∧ ¬ swy = 7 ∧ ¬ swy = 8 ∧ ¬ swy = 9 ∧ ¬ swy = 10 ∧ ¬ swy = 11 ∧ ¬ swy = 12) by omega) with h3 | h3 | h3 | h3 | h3 | h3 | h3 | h3 | h3 | h3 | h3 | h3 | h3 | h3
      · refine nr_top (congrArg nI h3) ?_
        refine lv_tableIn (off := 66) (tgt := 76) hx hb dX6_cousin_10 (by decide) (by decide) rfl (by decide) ?_
        refine lv_aload_n hx hb dX6_cousin_76 rfl (lv_at hl 0 rfl) ?_
        refine va_get (D := G.1) (ci := 6) (v := .ref z1) (C := RX6) (T := TX6) (N := 9) hx hb hts hF6 hown hK hP 0 rfl rfl 0 (by decide) (hts (.fieldLink RX6 7 "CousinSharesModel" "s" "[I") (List.mem_of_getElem? (i := 1) rfl)) (fun _ h9 => h9) hf0 dX6_cousin_77 ?_
        refine nr_bi (v := 120) hx hb dX6_cousin_80 (by decide +kernel) ?_
        refine nr_const (v := 4) hx hb dX6_cousin_82 rfl ?_
        refine lv_iload_n hx hb dX6_cousin_83 rfl (lv_at hl 1 rfl) ?_
        refine nr_mul hx hb dX6_cousin_84 ?_
        refine nr_add hx hb dX6_cousin_85 ?_
        refine lv_iload_n hx hb dX6_cousin_86 rfl (lv_at hl 2 rfl) ?_
        refine nr_add hx hb dX6_cousin_87 ?_
        refine nr_ald hx hb hK hP 1 rfl (by omega) (by decide) dX6_cousin_88 ?_
        exact rret hx hb hr hlk (by unfold aCousin; rw [if_pos (by assumption), if_pos (by assumption), nn_n (by omega), nn_n (by omega)]; first | (rw [if_pos (by omega)]; try rfl) | (rw [if_neg (by omega), if_pos (by omega)]; try rfl) | (rw [if_neg (by omega), if_neg (by omega), if_pos (by omega)]; try rfl) | (rw [if_neg (by omega), if_neg (by omega), if_neg (by omega), if_pos (by omega)]; try rfl) | (rw [if_neg (by omega), if_neg (by omega), if_neg (by omega), if_neg (by omega), if_pos (by omega)]; try rfl) | (rw [if_neg (by omega), if_neg (by omega), if_neg (by omega), if_neg (by omega), if_neg (by omega), if_pos (by omega)]; try rfl) | (rw [if_neg (by omega), if_neg (by omega), if_neg (by omega), if_neg (by omega), if_neg (by omega), if_neg (by omega), if_pos (by omega)]; try rfl) | (rw [if_neg (by omega), if_neg (by omega), if_neg (by omega), if_neg (by omega), if_neg (by omega), if_neg (by omega), if_neg (by omega), if_pos (by omega)]; try rfl) | (rw [if_neg (by omega), if_neg (by omega), if_neg (by omega), if_neg (by omega), if_neg (by omega), if_neg (by omega), if_neg (by omega), if_neg (by omega), if_pos (by omega)]; try rfl) | (rw [if_neg (by omega), if_neg (by omega), if_neg (by omega), if_neg (by omega), if_neg (by omega), if_neg (by omega), if_neg (by omega), if_neg (by omega), if_neg (by omega)]; try rfl)) dX6_cousin_89
      · refine nr_top (congrArg nI h3) ?_
        refine lv_tableIn (off := 66) (tgt := 76) hx hb dX6_cousin_10 (by decide) (by decide) rfl (by decide) ?_
        refine lv_aload_n hx hb dX6_cousin_76 rfl (lv_at hl 0 rfl) ?_
        refine va_get (D := G.1) (ci := 6) (v := .ref z1) (C := RX6) (T := TX6) (N := 9) hx hb hts hF6 hown hK hP 0 rfl rfl 0 (by decide) (hts (.fieldLink RX6 7 "CousinSharesModel" "s" "[I") (List.mem_of_getElem? (i := 1) rfl)) (fun _ h9 => h9) hf0 dX6_cousin_77 ?_
        refine nr_bi (v := 120) hx hb dX6_cousin_80 (by decide +kernel) ?_
        refine nr_const (v := 4) hx hb dX6_cousin_82 rfl ?_
        refine lv_iload_n hx hb dX6_cousin_83 rfl (lv_at hl 1 rfl) ?_
        refine nr_mul hx hb dX6_cousin_84 ?_
        refine nr_add hx hb dX6_cousin_85 ?_
        refine lv_iload_n hx hb dX6_cousin_86 rfl (lv_at hl 2 rfl) ?_
        refine nr_add hx hb dX6_cousin_87 ?_
        refine nr_ald hx hb hK hP 1 rfl (by omega) (by decide) dX6_cousin_88 ?_
        exact rret hx hb hr hlk (by unfold aCousin; rw [if_pos (by assumption), if_pos (by assumption), nn_n (by omega), nn_n (by omega)]; first | (rw [if_pos (by omega)]; try rfl) | (rw [if_neg (by omega), if_pos (by omega)]; try rfl) | (rw [if_neg (by omega), if_neg (by omega), if_pos (by omega)]; try rfl) | (rw [if_neg (by omega), if_neg (by omega), if_neg (by omega), if_pos (by omega)]; try rfl) | (rw [if_neg (by omega), if_neg (by omega), if_neg (by omega), if_neg (by omega), if_pos (by omega)]; try rfl) | (rw [if_neg (by omega), if_neg (by omega), if_neg (by omega), if_neg (by omega), if_neg (by omega), if_pos (by omega)]; try rfl) | (rw [if_neg (by omega), if_neg (by omega), if_neg (by omega), if_neg (by omega), if_neg (by omega), if_neg (by omega), if_pos (by omega)]; try rfl) | (rw [if_neg (by omega), if_neg (by omega), if_neg (by omega), if_neg (by omega), if_neg (by omega), if_neg (by omega), if_neg (by omega), if_pos (by omega)]; try rfl) | (rw [if_neg (by omega), if_neg (by omega), if_neg (by omega), if_neg (by omega), if_neg (by omega), if_neg (by omega), if_neg (by omega), if_neg (by omega), if_pos (by omega)]; try rfl) | (rw [if_neg (by omega), if_neg (by omega), if_neg (by omega), if_neg (by omega), if_neg (by omega), if_neg (by omega), if_neg (by omega), if_neg (by omega), if_neg (by omega)]; try rfl)) dX6_cousin_89
      · refine nr_top (congrArg nI h3) ?_
        refine lv_tableIn (off := 66) (tgt := 76) hx hb dX6_cousin_10 (by decide) (by decide) rfl (by decide) ?_
        refine lv_aload_n hx hb dX6_cousin_76 rfl (lv_at hl 0 rfl) ?_
        refine va_get (D := G.1) (ci := 6) (v := .ref z1) (C := RX6) (T := TX6) (N := 9) hx hb hts hF6 hown hK hP 0 rfl rfl 0 (by decide) (hts (.fieldLink RX6 7 "CousinSharesModel" "s" "[I") (List.mem_of_getElem? (i := 1) rfl)) (fun _ h9 => h9) hf0 dX6_cousin_77 ?_
        refine nr_bi (v := 120) hx hb dX6_cousin_80 (by decide +kernel) ?_
        refine nr_const (v := 4) hx hb dX6_cousin_82 rfl ?_
        refine lv_iload_n hx hb dX6_cousin_83 rfl (lv_at hl 1 rfl) ?_
        refine nr_mul hx hb dX6_cousin_84 ?_
        refine nr_add hx hb dX6_cousin_85 ?_
        refine lv_iload_n hx hb dX6_cousin_86 rfl (lv_at hl 2 rfl) ?_
        refine nr_add hx hb dX6_cousin_87 ?_
        refine nr_ald hx hb hK hP 1 rfl (by omega) (by decide) dX6_cousin_88 ?_
        exact rret hx hb hr hlk (by unfold aCousin; rw [if_pos (by assumption), if_pos (by assumption), nn_n (by omega), nn_n (by omega)]; first | (rw [if_pos (by omega)]; try rfl) | (rw [if_neg (by omega), if_pos (by omega)]; try rfl) | (rw [if_neg (by omega), if_neg (by omega), if_pos (by omega)]; try rfl) | (rw [if_neg (by omega), if_neg (by omega), if_neg (by omega), if_pos (by omega)]; try rfl) | (rw [if_neg (by omega), if_neg (by omega), if_neg (by omega), if_neg (by omega), if_pos (by omega)]; try rfl) | (rw [if_neg (by omega), if_neg (by omega), if_neg (by omega), if_neg (by omega), if_neg (by omega), if_pos (by omega)]; try rfl) | (rw [if_neg (by omega), if_neg (by omega), if_neg (by omega), if_neg (by omega), if_neg (by omega), if_neg (by omega), if_pos (by omega)]; try rfl) | (rw [if_neg (by omega), if_neg (by omega), if_neg (by omega), if_neg (by omega), if_neg (by omega), if_neg (by omega), if_neg (by omega), if_pos (by omega)]; try rfl) | (rw [if_neg (by omega), if_neg (by omega), if_neg (by omega), if_neg (by omega), if_neg (by omega), if_neg (by omega), if_neg (by omega), if_neg (by omega), if_pos (by omega)]; try rfl) | (rw [if_neg (by omega), if_neg (by omega), if_neg (by omega), if_neg (by omega), if_neg (by omega), if_neg (by omega), if_neg (by omega), if_neg (by omega), if_neg (by omega)]; try rfl)) dX6_cousin_89
      · refine nr_top (congrArg nI h3) ?_
        refine lv_tableIn (off := 66) (tgt := 76) hx hb dX6_cousin_10 (by decide) (by decide) rfl (by decide) ?_
        refine lv_aload_n hx hb dX6_cousin_76 rfl (lv_at hl 0 rfl) ?_
        refine va_get (D := G.1) (ci := 6) (v := .ref z1) (C := RX6) (T := TX6) (N := 9) hx hb hts hF6 hown hK hP 0 rfl rfl 0 (by decide) (hts (.fieldLink RX6 7 "CousinSharesModel" "s" "[I") (List.mem_of_getElem? (i := 1) rfl)) (fun _ h9 => h9) hf0 dX6_cousin_77 ?_
        refine nr_bi (v := 120) hx hb dX6_cousin_80 (by decide +kernel) ?_
        refine nr_const (v := 4) hx hb dX6_cousin_82 rfl ?_
        refine lv_iload_n hx hb dX6_cousin_83 rfl (lv_at hl 1 rfl) ?_
        refine nr_mul hx hb dX6_cousin_84 ?_
        refine nr_add hx hb dX6_cousin_85 ?_
        refine lv_iload_n hx hb dX6_cousin_86 rfl (lv_at hl 2 rfl) ?_
        refine nr_add hx hb dX6_cousin_87 ?_
        refine nr_ald hx hb hK hP 1 rfl (by omega) (by decide) dX6_cousin_88 ?_
        exact rret hx hb hr hlk (by unfold aCousin; rw [if_pos (by assumption), if_pos (by assumption), nn_n (by omega), nn_n (by omega)]; first | (rw [if_pos (by omega)]; try rfl) | (rw [if_neg (by omega), if_pos (by omega)]; try rfl) | (rw [if_neg (by omega), if_neg (by omega), if_pos (by omega)]; try rfl) | (rw [if_neg (by omega), if_neg (by omega), if_neg (by omega), if_pos (by omega)]; try rfl) | (rw [if_neg (by omega), if_neg (by omega), if_neg (by omega), if_neg (by omega), if_pos (by omega)]; try rfl) | (rw [if_neg (by omega), if_neg (by omega), if_neg (by omega), if_neg (by omega), if_neg (by omega), if_pos (by omega)]; try rfl) | (rw [if_neg (by omega), if_neg (by omega), if_neg (by omega), if_neg (by omega), if_neg (by omega), if_neg (by omega), if_pos (by omega)]; try rfl) | (rw [if_neg (by omega), if_neg (by omega), if_neg (by omega), if_neg (by omega), if_neg (by omega), if_neg (by omega), if_neg (by omega), if_pos (by omega)]; try rfl) | (rw [if_neg (by omega), if_neg (by omega), if_neg (by omega), if_neg (by omega), if_neg (by omega), if_neg (by omega), if_neg (by omega), if_neg (by omega), if_pos (by omega)]; try rfl) | (rw [if_neg (by omega), if_neg (by omega), if_neg (by omega), if_neg (by omega), if_neg (by omega), if_neg (by omega), if_neg (by omega), if_neg (by omega), if_neg (by omega)]; try rfl)) dX6_cousin_89
      · refine nr_top (congrArg nI h3) ?_
        refine lv_tableIn (off := 80) (tgt := 90) hx hb dX6_cousin_10 (by decide) (by decide) rfl (by decide) ?_
        refine lv_aload_n hx hb dX6_cousin_90 rfl (lv_at hl 0 rfl) ?_
        refine lv_iload_n hx hb dX6_cousin_91 rfl (lv_at hl 1 rfl) ?_
        refine rcV (As := [.int (nI a)]) (wl := [(z0, .inr (6, fs)), (z1, .inl (G.2 0, 404, .inl (nA M)))]) ⟨hx, hb, hml, hown, hts⟩ (c_X6_plotsOf l G z0 z1 fs M a hf0 (by omega) hO) (cwV 1 hts gX6_cousin_X6_plotsOf rfl rfl rfl (by decide +kernel) ⟨Nat.le_of_ble_eq_true rfl, Nat.le_of_ble_eq_true rfl⟩) hK hP 6 0 rfl rfl rfl hl.1 rfl (Nat.le_of_ble_eq_true rfl) dX6_cousin_92 ⟨Nat.zero_le _, Nat.zero_le _⟩ ?_
        exact rret hx hb hr hlk (by unfold aCousin; rw [if_pos (by assumption), if_pos (by assumption), nn_n (by omega), nn_n (by omega)]; first | (rw [if_pos (by omega)]; try rfl) | (rw [if_neg (by omega), if_pos (by omega)]; try rfl) | (rw [if_neg (by omega), if_neg (by omega), if_pos (by omega)]; try rfl) | (rw [if_neg (by omega), if_neg (by omega), if_neg (by omega), if_pos (by omega)]; try rfl) | (rw [if_neg (by omega), if_neg (by omega), if_neg (by omega), if_neg (by omega), if_pos (by omega)]; try rfl) | (rw [if_neg (by omega), if_neg (by omega), if_neg (by omega), if_neg (by omega), if_neg (by omega), if_pos (by omega)]; try rfl) | (rw [if_neg (by omega), if_neg (by omega), if_neg (by omega), if_neg (by omega), if_neg (by omega), if_neg (by omega), if_pos (by omega)]; try rfl) | (rw [if_neg (by omega), if_neg (by omega), if_neg (by omega), if_neg (by omega), if_neg (by omega), if_neg (by omega), if_neg (by omega), if_pos (by omega)]; try rfl) | (rw [if_neg (by omega), if_neg (by omega), if_neg (by omega), if_neg (by omega), if_neg (by omega), if_neg (by omega), if_neg (by omega), if_neg (by omega), if_pos (by omega)]; try rfl) | (rw [if_neg (by omega), if_neg (by omega), if_neg (by omega), if_neg (by omega), if_neg (by omega), if_neg (by omega), if_neg (by omega), if_neg (by omega), if_neg (by omega)]; try rfl)) dX6_cousin_95
      · refine nr_top (congrArg nI h3) ?_
        refine lv_tableIn (off := 86) (tgt := 96) hx hb dX6_cousin_10 (by decide) (by decide) rfl (by decide) ?_
        refine lv_aload_n hx hb dX6_cousin_96 rfl (lv_at hl 0 rfl) ?_
        refine nr_const (v := 0) hx hb dX6_cousin_97 rfl ?_
        refine lv_iload_n hx hb dX6_cousin_98 rfl (lv_at hl 1 rfl) ?_
        refine lv_iload_n hx hb dX6_cousin_99 rfl (lv_at hl 1 rfl) ?_
        refine rcV (As := [.int (nI 0), .int (nI a), .int (nI a)]) (wl := [(z0, .inr (6, fs)), (z1, .inl (G.2 0, 404, .inl (nA M)))]) ⟨hx, hb, hml, hown, hts⟩ (c_X6_share l G z0 z1 fs M 0 a a hf0 (by omega) (by omega) (by omega) hO) (cwV 3 hts gX6_cousin_X6_share rfl rfl rfl (by decide +kernel) ⟨Nat.le_of_ble_eq_true rfl, Nat.le_of_ble_eq_true rfl⟩) hK hP 6 0 rfl rfl rfl hl.1 rfl (Nat.le_of_ble_eq_true rfl) dX6_cousin_100 ⟨Nat.zero_le _, Nat.zero_le _⟩ ?_
        exact rret hx hb hr hlk (by unfold aCousin; rw [if_pos (by assumption), if_pos (by assumption), nn_n (by omega), nn_n (by omega)]; first | (rw [if_pos (by omega)]; try rfl) | (rw [if_neg (by omega), if_pos (by omega)]; try rfl) | (rw [if_neg (by omega), if_neg (by omega), if_pos (by omega)]; try rfl) | (rw [if_neg (by omega), if_neg (by omega), if_neg (by omega), if_pos (by omega)]; try rfl) | (rw [if_neg (by omega), if_neg (by omega), if_neg (by omega), if_neg (by omega), if_pos (by omega)]; try rfl) | (rw [if_neg (by omega), if_neg (by omega), if_neg (by omega), if_neg (by omega), if_neg (by omega), if_pos (by omega)]; try rfl) | (rw [if_neg (by omega), if_neg (by omega), if_neg (by omega), if_neg (by omega), if_neg (by omega), if_neg (by omega), if_pos (by omega)]; try rfl) | (rw [if_neg (by omega), if_neg (by omega), if_neg (by omega), if_neg (by omega), if_neg (by omega), if_neg (by omega), if_neg (by omega), if_pos (by omega)]; try rfl) | (rw [if_neg (by omega), if_neg (by omega), if_neg (by omega), if_neg (by omega), if_neg (by omega), if_neg (by omega), if_neg (by omega), if_neg (by omega), if_pos (by omega)]; try rfl) | (rw [if_neg (by omega), if_neg (by omega), if_neg (by omega), if_neg (by omega), if_neg (by omega), if_neg (by omega), if_neg (by omega), if_neg (by omega), if_neg (by omega)]; try rfl)) dX6_cousin_103
      · refine nr_top (congrArg nI h3) ?_
        refine lv_tableIn (off := 94) (tgt := 104) hx hb dX6_cousin_10 (by decide) (by decide) rfl (by decide) ?_
        refine lv_aload_n hx hb dX6_cousin_104 rfl (lv_at hl 0 rfl) ?_
        refine lv_iload_n hx hb dX6_cousin_105 rfl (lv_at hl 1 rfl) ?_
        refine nr_const (v := 0) hx hb dX6_cousin_106 rfl ?_
        refine rcV (As := [.int (nI a), .int (nI 0)]) (wl := [(z0, .inr (6, fs)), (z1, .inl (G.2 0, 404, .inl (nA M)))]) ⟨hx, hb, hml, hown, hts⟩ (c_X6_worthFrom l G z0 z1 fs M a 0 hf0 (by omega) (by omega)) (cwV 2 hts gX6_cousin_X6_worthFrom rfl rfl rfl (by decide +kernel) ⟨Nat.le_of_ble_eq_true rfl, Nat.le_of_ble_eq_true rfl⟩) hK hP 6 0 rfl rfl rfl hl.1 rfl (Nat.le_of_ble_eq_true rfl) dX6_cousin_107 ⟨Nat.zero_le _, Nat.zero_le _⟩ ?_
        exact rret hx hb hr hlk (by unfold aCousin; rw [if_pos (by assumption), if_pos (by assumption), nn_n (by omega), nn_n (by omega)]; first | (rw [if_pos (by omega)]; try rfl) | (rw [if_neg (by omega), if_pos (by omega)]; try rfl) | (rw [if_neg (by omega), if_neg (by omega), if_pos (by omega)]; try rfl) | (rw [if_neg (by omega), if_neg (by omega), if_neg (by omega), if_pos (by omega)]; try rfl) | (rw [if_neg (by omega), if_neg (by omega), if_neg (by omega), if_neg (by omega), if_pos (by omega)]; try rfl) | (rw [if_neg (by omega), if_neg (by omega), if_neg (by omega), if_neg (by omega), if_neg (by omega), if_pos (by omega)]; try rfl) | (rw [if_neg (by omega), if_neg (by omega), if_neg (by omega), if_neg (by omega), if_neg (by omega), if_neg (by omega), if_pos (by omega)]; try rfl) | (rw [if_neg (by omega), if_neg (by omega), if_neg (by omega), if_neg (by omega), if_neg (by omega), if_neg (by omega), if_neg (by omega), if_pos (by omega)]; try rfl) | (rw [if_neg (by omega), if_neg (by omega), if_neg (by omega), if_neg (by omega), if_neg (by omega), if_neg (by omega), if_neg (by omega), if_neg (by omega), if_pos (by omega)]; try rfl) | (rw [if_neg (by omega), if_neg (by omega), if_neg (by omega), if_neg (by omega), if_neg (by omega), if_neg (by omega), if_neg (by omega), if_neg (by omega), if_neg (by omega)]; try rfl)) dX6_cousin_110
      · refine nr_top (congrArg nI h3) ?_
        refine lv_tableIn (off := 101) (tgt := 111) hx hb dX6_cousin_10 (by decide) (by decide) rfl (by decide) ?_
        refine lv_aload_n hx hb dX6_cousin_111 rfl (lv_at hl 0 rfl) ?_
        refine lv_iload_n hx hb dX6_cousin_112 rfl (lv_at hl 1 rfl) ?_
        refine rcV (As := [.int (nI a)]) (wl := [(z0, .inr (6, fs)), (z1, .inl (G.2 0, 404, .inl (nA M)))]) ⟨hx, hb, hml, hown, hts⟩ (c_X6_hundredths l G z0 z1 fs M a hf0 h0 (by omega) hO) (cwV 1 hts gX6_cousin_X6_hundredths rfl rfl rfl (by decide +kernel) ⟨Nat.le_of_ble_eq_true rfl, Nat.le_of_ble_eq_true rfl⟩) hK hP 6 0 rfl rfl rfl hl.1 rfl (Nat.le_of_ble_eq_true rfl) dX6_cousin_113 ⟨Nat.zero_le _, Nat.zero_le _⟩ ?_
        refine nr_top (y := nI (hnd M a)) (rfl) ?_
        exact rret hx hb hr hlk (by unfold aCousin; rw [if_pos (by assumption), if_pos (by assumption), nn_n (by omega), nn_n (by omega)]; first | (rw [if_pos (by omega)]; try rfl) | (rw [if_neg (by omega), if_pos (by omega)]; try rfl) | (rw [if_neg (by omega), if_neg (by omega), if_pos (by omega)]; try rfl) | (rw [if_neg (by omega), if_neg (by omega), if_neg (by omega), if_pos (by omega)]; try rfl) | (rw [if_neg (by omega), if_neg (by omega), if_neg (by omega), if_neg (by omega), if_pos (by omega)]; try rfl) | (rw [if_neg (by omega), if_neg (by omega), if_neg (by omega), if_neg (by omega), if_neg (by omega), if_pos (by omega)]; try rfl) | (rw [if_neg (by omega), if_neg (by omega), if_neg (by omega), if_neg (by omega), if_neg (by omega), if_neg (by omega), if_pos (by omega)]; try rfl) | (rw [if_neg (by omega), if_neg (by omega), if_neg (by omega), if_neg (by omega), if_neg (by omega), if_neg (by omega), if_neg (by omega), if_pos (by omega)]; try rfl) | (rw [if_neg (by omega), if_neg (by omega), if_neg (by omega), if_neg (by omega), if_neg (by omega), if_neg (by omega), if_neg (by omega), if_neg (by omega), if_pos (by omega)]; try rfl) | (rw [if_neg (by omega), if_neg (by omega), if_neg (by omega), if_neg (by omega), if_neg (by omega), if_neg (by omega), if_neg (by omega), if_neg (by omega), if_neg (by omega)]; try rfl)) dX6_cousin_116
      · refine nr_top (congrArg nI h3) ?_
        refine lv_tableIn (off := 107) (tgt := 117) hx hb dX6_cousin_10 (by decide) (by decide) rfl (by decide) ?_
        refine lv_aload_n hx hb dX6_cousin_117 rfl (lv_at hl 0 rfl) ?_
        refine lv_iload_n hx hb dX6_cousin_118 rfl (lv_at hl 1 rfl) ?_
        refine rcV (As := [.int (nI a)]) (wl := [(z0, .inr (6, fs)), (z1, .inl (G.2 0, 404, .inl (nA M)))]) ⟨hx, hb, hml, hown, hts⟩ (c_X6_grudges l G z0 z1 fs M a hf0 (by omega)) (cwV 1 hts gX6_cousin_X6_grudges rfl rfl rfl (by decide +kernel) ⟨Nat.le_of_ble_eq_true rfl, Nat.le_of_ble_eq_true rfl⟩) hK hP 6 0 rfl rfl rfl hl.1 rfl (Nat.le_of_ble_eq_true rfl) dX6_cousin_119 ⟨Nat.zero_le _, Nat.zero_le _⟩ ?_
        exact rret hx hb hr hlk (by unfold aCousin; rw [if_pos (by assumption), if_pos (by assumption), nn_n (by omega), nn_n (by omega)]; first | (rw [if_pos (by omega)]; try rfl) | (rw [if_neg (by omega), if_pos (by omega)]; try rfl) | (rw [if_neg (by omega), if_neg (by omega), if_pos (by omega)]; try rfl) | (rw [if_neg (by omega), if_neg (by omega), if_neg (by omega), if_pos (by omega)]; try rfl) | (rw [if_neg (by omega), if_neg (by omega), if_neg (by omega), if_neg (by omega), if_pos (by omega)]; try rfl) | (rw [if_neg (by omega), if_neg (by omega), if_neg (by omega), if_neg (by omega), if_neg (by omega), if_pos (by omega)]; try rfl) | (rw [if_neg (by omega), if_neg (by omega), if_neg (by omega), if_neg (by omega), if_neg (by omega), if_neg (by omega), if_pos (by omega)]; try rfl) | (rw [if_neg (by omega), if_neg (by omega), if_neg (by omega), if_neg (by omega), if_neg (by omega), if_neg (by omega), if_neg (by omega), if_pos (by omega)]; try rfl) | (rw [if_neg (by omega), if_neg (by omega), if_neg (by omega), if_neg (by omega), if_neg (by omega), if_neg (by omega), if_neg (by omega), if_neg (by omega), if_pos (by omega)]; try rfl) | (rw [if_neg (by omega), if_neg (by omega), if_neg (by omega), if_neg (by omega), if_neg (by omega), if_neg (by omega), if_neg (by omega), if_neg (by omega), if_neg (by omega)]; try rfl)) dX6_cousin_122
      · refine nr_top (congrArg nI h3) ?_
        refine lv_tableIn (off := 113) (tgt := 123) hx hb dX6_cousin_10 (by decide) (by decide) rfl (by decide) ?_
        refine lv_aload_n hx hb dX6_cousin_123 rfl (lv_at hl 0 rfl) ?_
        refine nr_const (v := 0) hx hb dX6_cousin_124 rfl ?_
        refine nr_const (v := 1) hx hb dX6_cousin_125 rfl ?_
        refine lv_iload_n hx hb dX6_cousin_126 rfl (lv_at hl 1 rfl) ?_
        refine lv_ishl hx hb dX6_cousin_127 ?_
        refine nr_top (bt_shl (by omega)) ?_
        refine nr_bi (v := 127) hx hb dX6_cousin_128 (by decide +kernel) ?_
        refine rcV (As := [.int (nI 0), .int (nI (2 ^ a)), .int (nI 127)]) (wl := [(z0, .inr (6, fs)), (z1, .inl (G.2 0, 404, .inl (nA M)))]) ⟨hx, hb, hml, hown, hts⟩ (c_X6_envies l G z0 z1 fs M 0 (2 ^ a) 127 hf0 h0 (by omega) (bt_pw a (by omega)) (by decide) hO) (cwV 3 hts gX6_cousin_X6_envies rfl rfl rfl (by decide +kernel) ⟨Nat.le_of_ble_eq_true rfl, Nat.le_of_ble_eq_true rfl⟩) hK hP 6 0 rfl rfl rfl hl.1 rfl (Nat.le_of_ble_eq_true rfl) dX6_cousin_130 ⟨Nat.zero_le _, Nat.zero_le _⟩ ?_
        exact rret hx hb hr hlk (by unfold aCousin; rw [if_pos (by assumption), if_pos (by assumption), nn_n (by omega), nn_n (by omega)]; first | (rw [if_pos (by omega)]; try rfl) | (rw [if_neg (by omega), if_pos (by omega)]; try rfl) | (rw [if_neg (by omega), if_neg (by omega), if_pos (by omega)]; try rfl) | (rw [if_neg (by omega), if_neg (by omega), if_neg (by omega), if_pos (by omega)]; try rfl) | (rw [if_neg (by omega), if_neg (by omega), if_neg (by omega), if_neg (by omega), if_pos (by omega)]; try rfl) | (rw [if_neg (by omega), if_neg (by omega), if_neg (by omega), if_neg (by omega), if_neg (by omega), if_pos (by omega)]; try rfl) | (rw [if_neg (by omega), if_neg (by omega), if_neg (by omega), if_neg (by omega), if_neg (by omega), if_neg (by omega), if_pos (by omega)]; try rfl) | (rw [if_neg (by omega), if_neg (by omega), if_neg (by omega), if_neg (by omega), if_neg (by omega), if_neg (by omega), if_neg (by omega), if_pos (by omega)]; try rfl) | (rw [if_neg (by omega), if_neg (by omega), if_neg (by omega), if_neg (by omega), if_neg (by omega), if_neg (by omega), if_neg (by omega), if_neg (by omega), if_pos (by omega)]; try rfl) | (rw [if_neg (by omega), if_neg (by omega), if_neg (by omega), if_neg (by omega), if_neg (by omega), if_neg (by omega), if_neg (by omega), if_neg (by omega), if_neg (by omega)]; try rfl)) dX6_cousin_133
      · refine nr_top (congrArg nI h3) ?_
        refine lv_tableIn (off := 124) (tgt := 134) hx hb dX6_cousin_10 (by decide) (by decide) rfl (by decide) ?_
        refine lv_aload_n hx hb dX6_cousin_134 rfl (lv_at hl 0 rfl) ?_
        refine lv_iload_n hx hb dX6_cousin_135 rfl (lv_at hl 1 rfl) ?_
        refine rcV (As := [.int (nI a)]) (wl := [(z0, .inr (6, fs)), (z1, .inl (G.2 0, 404, .inl (nA M)))]) ⟨hx, hb, hml, hown, hts⟩ (c_X6_greatestEnvy l G z0 z1 fs M a hf0 h0 (by omega) hO) (cwV 1 hts gX6_cousin_X6_greatestEnvy rfl rfl rfl (by decide +kernel) ⟨Nat.le_of_ble_eq_true rfl, Nat.le_of_ble_eq_true rfl⟩) hK hP 6 0 rfl rfl rfl hl.1 rfl (Nat.le_of_ble_eq_true rfl) dX6_cousin_136 ⟨Nat.zero_le _, Nat.zero_le _⟩ ?_
        exact rret hx hb hr hlk (by unfold aCousin; rw [if_pos (by assumption), if_pos (by assumption), nn_n (by omega), nn_n (by omega)]; first | (rw [if_pos (by omega)]; try rfl) | (rw [if_neg (by omega), if_pos (by omega)]; try rfl) | (rw [if_neg (by omega), if_neg (by omega), if_pos (by omega)]; try rfl) | (rw [if_neg (by omega), if_neg (by omega), if_neg (by omega), if_pos (by omega)]; try rfl) | (rw [if_neg (by omega), if_neg (by omega), if_neg (by omega), if_neg (by omega), if_pos (by omega)]; try rfl) | (rw [if_neg (by omega), if_neg (by omega), if_neg (by omega), if_neg (by omega), if_neg (by omega), if_pos (by omega)]; try rfl) | (rw [if_neg (by omega), if_neg (by omega), if_neg (by omega), if_neg (by omega), if_neg (by omega), if_neg (by omega), if_pos (by omega)]; try rfl) | (rw [if_neg (by omega), if_neg (by omega), if_neg (by omega), if_neg (by omega), if_neg (by omega), if_neg (by omega), if_neg (by omega), if_pos (by omega)]; try rfl) | (rw [if_neg (by omega), if_neg (by omega), if_neg (by omega), if_neg (by omega), if_neg (by omega), if_neg (by omega), if_neg (by omega), if_neg (by omega), if_pos (by omega)]; try rfl) | (rw [if_neg (by omega), if_neg (by omega), if_neg (by omega), if_neg (by omega), if_neg (by omega), if_neg (by omega), if_neg (by omega), if_neg (by omega), if_neg (by omega)]; try rfl)) dX6_cousin_139
      · refine nr_top (congrArg nI h3) ?_
        refine lv_tableIn (off := 130) (tgt := 140) hx hb dX6_cousin_10 (by decide) (by decide) rfl (by decide) ?_
        refine lv_aload_n hx hb dX6_cousin_140 rfl (lv_at hl 0 rfl) ?_
        refine nr_const (v := 0) hx hb dX6_cousin_141 rfl ?_
        refine nr_bi (v := 127) hx hb dX6_cousin_142 (by decide +kernel) ?_
        refine nr_const (v := 1) hx hb dX6_cousin_144 rfl ?_
        refine lv_iload_n hx hb dX6_cousin_145 rfl (lv_at hl 1 rfl) ?_
        refine lv_ishl hx hb dX6_cousin_146 ?_
        refine nr_top (bt_shl (by omega)) ?_
        refine rcV (As := [.int (nI 0), .int (nI 127), .int (nI (2 ^ a))]) (wl := [(z0, .inr (6, fs)), (z1, .inl (G.2 0, 404, .inl (nA M)))]) ⟨hx, hb, hml, hown, hts⟩ (c_X6_envies l G z0 z1 fs M 0 127 (2 ^ a) hf0 h0 (by omega) (by decide) (bt_pw a (by omega)) hO) (cwV 3 hts gX6_cousin_X6_envies rfl rfl rfl (by decide +kernel) ⟨Nat.le_of_ble_eq_true rfl, Nat.le_of_ble_eq_true rfl⟩) hK hP 6 0 rfl rfl rfl hl.1 rfl (Nat.le_of_ble_eq_true rfl) dX6_cousin_147 ⟨Nat.zero_le _, Nat.zero_le _⟩ ?_
        exact rret hx hb hr hlk (by unfold aCousin; rw [if_pos (by assumption), if_pos (by assumption), nn_n (by omega), nn_n (by omega)]; first | (rw [if_pos (by omega)]; try rfl) | (rw [if_neg (by omega), if_pos (by omega)]; try rfl) | (rw [if_neg (by omega), if_neg (by omega), if_pos (by omega)]; try rfl) | (rw [if_neg (by omega), if_neg (by omega), if_neg (by omega), if_pos (by omega)]; try rfl) | (rw [if_neg (by omega), if_neg (by omega), if_neg (by omega), if_neg (by omega), if_pos (by omega)]; try rfl) | (rw [if_neg (by omega), if_neg (by omega), if_neg (by omega), if_neg (by omega), if_neg (by omega), if_pos (by omega)]; try rfl) | (rw [if_neg (by omega), if_neg (by omega), if_neg (by omega), if_neg (by omega), if_neg (by omega), if_neg (by omega), if_pos (by omega)]; try rfl) | (rw [if_neg (by omega), if_neg (by omega), if_neg (by omega), if_neg (by omega), if_neg (by omega), if_neg (by omega), if_neg (by omega), if_pos (by omega)]; try rfl) | (rw [if_neg (by omega), if_neg (by omega), if_neg (by omega), if_neg (by omega), if_neg (by omega), if_neg (by omega), if_neg (by omega), if_neg (by omega), if_pos (by omega)]; try rfl) | (rw [if_neg (by omega), if_neg (by omega), if_neg (by omega), if_neg (by omega), if_neg (by omega), if_neg (by omega), if_neg (by omega), if_neg (by omega), if_neg (by omega)]; try rfl)) dX6_cousin_150
      · refine nr_top (congrArg nI h3) ?_
        refine lv_tableIn (off := 141) (tgt := 151) hx hb dX6_cousin_10 (by decide) (by decide) rfl (by decide) ?_
        refine lv_aload_n hx hb dX6_cousin_151 rfl (lv_at hl 0 rfl) ?_
        refine lv_iload_n hx hb dX6_cousin_152 rfl (lv_at hl 1 rfl) ?_
        refine rcV (As := [.int (nI a)]) (wl := [(z0, .inr (6, fs)), (z1, .inl (G.2 0, 404, .inl (nA M)))]) ⟨hx, hb, hml, hown, hts⟩ (c_X6_placeOf l G z0 z1 fs M a hf0 h0 (by omega)) (cwV 1 hts gX6_cousin_X6_placeOf rfl rfl rfl (by decide +kernel) ⟨Nat.le_of_ble_eq_true rfl, Nat.le_of_ble_eq_true rfl⟩) hK hP 6 0 rfl rfl rfl hl.1 rfl (Nat.le_of_ble_eq_true rfl) dX6_cousin_153 ⟨Nat.zero_le _, Nat.zero_le _⟩ ?_
        exact rret hx hb hr hlk (by unfold aCousin; rw [if_pos (by assumption), if_pos (by assumption), nn_n (by omega), nn_n (by omega)]; first | (rw [if_pos (by omega)]; try rfl) | (rw [if_neg (by omega), if_pos (by omega)]; try rfl) | (rw [if_neg (by omega), if_neg (by omega), if_pos (by omega)]; try rfl) | (rw [if_neg (by omega), if_neg (by omega), if_neg (by omega), if_pos (by omega)]; try rfl) | (rw [if_neg (by omega), if_neg (by omega), if_neg (by omega), if_neg (by omega), if_pos (by omega)]; try rfl) | (rw [if_neg (by omega), if_neg (by omega), if_neg (by omega), if_neg (by omega), if_neg (by omega), if_pos (by omega)]; try rfl) | (rw [if_neg (by omega), if_neg (by omega), if_neg (by omega), if_neg (by omega), if_neg (by omega), if_neg (by omega), if_pos (by omega)]; try rfl) | (rw [if_neg (by omega), if_neg (by omega), if_neg (by omega), if_neg (by omega), if_neg (by omega), if_neg (by omega), if_neg (by omega), if_pos (by omega)]; try rfl) | (rw [if_neg (by omega), if_neg (by omega), if_neg (by omega), if_neg (by omega), if_neg (by omega), if_neg (by omega), if_neg (by omega), if_neg (by omega), if_pos (by omega)]; try rfl) | (rw [if_neg (by omega), if_neg (by omega), if_neg (by omega), if_neg (by omega), if_neg (by omega), if_neg (by omega), if_neg (by omega), if_neg (by omega), if_neg (by omega)]; try rfl)) dX6_cousin_156
      · omega
    · skip
      refine lv_tableOut (tgt := 157) hx hb dX6_cousin_10 (rg_out (by decide) h2) (by decide) ?_
      refine lv_bipush (v := (-2)) hx hb dX6_cousin_157 (by decide +kernel) ?_
      exact rret hx hb hr hlk (by unfold aCousin; rw [if_pos (by assumption), if_neg (by assumption)]) dX6_cousin_159
  · skip
    refine lv_iconst (v := (-1)) hx hb dX6_cousin_7 (by decide +kernel) ?_
    exact rret hx hb hr hlk (by unfold aCousin; rw [if_neg (by assumption)]) dX6_cousin_8)

set_option maxHeartbeats 4000000 in
set_option maxRecDepth 100000 in
theorem c_X6_pair (l : Launch) (G : gG) (z0 : Nat) (z1 : Nat) (fs : List Value) (M : Nat → Nat) (x : Int32) (y : Int32) (z : Int32) (hf0 : fs[0]? = some (.ref z1)) (h0 : ok M) (hO : ∀ k, k < 24 → ow M 0 k < 8) : Met l yX6_pair wsX6_pair ({ frames := 4, cells := 0, slots := 0, locals := 96 } : Room) (RD G [(z0, .inr (6, fs)), (z1, .inl (G.2 0, 404, .inl (nA M)))] [.ref z0, .int x, .int y, .int z]) (QcRead (aPair M x y z)) 0 0 noF := rdM (C := RX6) rfl (by decide) rfl (Nat.le_of_ble_eq_true rfl) (fun pX eX sX mX bX meX cX ls hx hb hr hts hown hlk hml hP hK hl => by
  have hl : lv_has ls 4 [(0, .ref z0), (1, .int x), (2, .int y), (3, .int z)] := hl
  refine lv_iload_n hx hb dX6_pair_0 rfl (lv_at hl 1 rfl) ?_
  refine rcS (As := [.int x]) ⟨hx, hb, hml, hown, hts⟩ (c_X6_isCousin l x) (va_cwS 1 hts gX6_pair_X6_isCousin rfl rfl rfl (by decide +kernel) ⟨Nat.le_of_ble_eq_true rfl, Nat.le_of_ble_eq_true rfl⟩) rfl hl.1 rfl (Nat.le_of_ble_eq_true rfl) dX6_pair_1 ⟨Nat.zero_le _, Nat.zero_le _⟩ ?_
  refine br_eqb (tgt := 14) hx hb dX6_pair_4 (by decide) (fun h1 => ?_) (fun h1 => ?_)
  · skip
    refine lv_iconst (v := (-1)) hx hb dX6_pair_14 (by decide +kernel) ?_
    exact rret hx hb hr hlk (by unfold aPair; rw [if_neg (by first | exact fun q => absurd q.1 (by assumption) | exact fun q => absurd q.2 (by assumption))]) dX6_pair_15
  · skip
    refine lv_iload_n hx hb dX6_pair_7 rfl (lv_at hl 2 rfl) ?_
    refine rcS (As := [.int y]) ⟨hx, hb, hml, hown, hts⟩ (c_X6_isCousin l y) (va_cwS 1 hts gX6_pair_X6_isCousin rfl rfl rfl (by decide +kernel) ⟨Nat.le_of_ble_eq_true rfl, Nat.le_of_ble_eq_true rfl⟩) rfl hl.1 rfl (Nat.le_of_ble_eq_true rfl) dX6_pair_8 ⟨Nat.zero_le _, Nat.zero_le _⟩ ?_
    refine br_neb (tgt := 16) hx hb dX6_pair_11 (by decide) (fun h2 => ?_) (fun h2 => ?_)
    · skip
      refine lv_iload_n hx hb dX6_pair_16 rfl (lv_at hl 1 rfl) ?_
      refine lv_iload_n hx hb dX6_pair_17 rfl (lv_at hl 2 rfl) ?_
      refine lv_icmp_eq (tgt := 30) hx hb dX6_pair_18 (by decide) (fun h3 => ?_) (fun h3 => ?_)
      · skip
        refine lv_bipush (v := (-2)) hx hb dX6_pair_30 (by decide +kernel) ?_
        exact rret hx hb hr hlk (by unfold aPair; rw [if_pos ⟨by assumption, by assumption⟩, if_neg (by first | exact fun q => absurd (by assumption) q.1 | exact fun q => absurd q.2 (by assumption))]) dX6_pair_32
      · skip
        refine lv_iload_n hx hb dX6_pair_21 rfl (lv_at hl 3 rfl) ?_
        refine nr_const (v := 0) hx hb dX6_pair_22 rfl ?_
        refine nr_const (v := 4) hx hb dX6_pair_23 rfl ?_
        refine rcS (As := [.int z, .int (nI 0), .int (nI 4)]) ⟨hx, hb, hml, hown, hts⟩ (c_X6_in l z (nI 0) (nI 4)) (va_cwS 3 hts gX6_pair_X6_in rfl rfl rfl (by decide +kernel) ⟨Nat.le_of_ble_eq_true rfl, Nat.le_of_ble_eq_true rfl⟩) rfl hl.1 rfl (Nat.le_of_ble_eq_true rfl) dX6_pair_24 ⟨Nat.zero_le _, Nat.zero_le _⟩ ?_
        refine br_neb (tgt := 33) hx hb dX6_pair_27 (by decide) (fun h4 => ?_) (fun h4 => ?_)
        · skip
          obtain ⟨a, hr_a, rfl⟩ := rg_of (x := x) (n := 6) (by assumption) (by decide)
          obtain ⟨b, hr_b, rfl⟩ := rg_of (x := y) (n := 6) (by assumption) (by decide)
          obtain ⟨d, hr_d, rfl⟩ := rg_of (x := z) (n := 4) (by assumption) (by decide)
          have hl : lv_has ls 4 [(0, .ref z0), (1, .int (nI a)), (2, .int (nI b)), (3, .int (nI d))] := hl
          refine lv_iload_n hx hb dX6_pair_33 rfl (lv_at hl 3 rfl) ?_
          rcases (show d = 0 ∨ d = 1 ∨ d = 2 ∨ d = 3 ∨ (¬ d = 0 ∧ ¬ d = 1 ∧ ¬ d = 2 ∧ ¬ d = 3) by omega) with h5 | h5 | h5 | h5 | h5
          · refine nr_top (congrArg nI h5) ?_
            refine lv_tableIn (off := 30) (tgt := 64) hx hb dX6_pair_34 (by decide) (by decide) rfl (by decide) ?_
            refine lv_aload_n hx hb dX6_pair_64 rfl (lv_at hl 0 rfl) ?_
            refine lv_iload_n hx hb dX6_pair_65 rfl (lv_at hl 1 rfl) ?_
            refine lv_iload_n hx hb dX6_pair_66 rfl (lv_at hl 2 rfl) ?_
            refine rcV (As := [.int (nI a), .int (nI b)]) (wl := [(z0, .inr (6, fs)), (z1, .inl (G.2 0, 404, .inl (nA M)))]) ⟨hx, hb, hml, hown, hts⟩ (c_X6_grudgeOf l G z0 z1 fs M a b hf0 (by omega) (by omega)) (cwV 2 hts gX6_pair_X6_grudgeOf rfl rfl rfl (by decide +kernel) ⟨Nat.le_of_ble_eq_true rfl, Nat.le_of_ble_eq_true rfl⟩) hK hP 6 0 rfl rfl rfl hl.1 rfl (Nat.le_of_ble_eq_true rfl) dX6_pair_67 ⟨Nat.zero_le _, Nat.zero_le _⟩ ?_
            exact rret hx hb hr hlk (by unfold aPair; rw [if_pos ⟨by assumption, by assumption⟩, if_pos ⟨by assumption, by assumption⟩, nn_n (by omega), nn_n (by omega), nn_n (by omega)]; first | (rw [if_pos (by omega)]; try rfl) | (rw [if_neg (by omega), if_pos (by omega)]; try rfl) | (rw [if_neg (by omega), if_neg (by omega), if_pos (by omega)]; try rfl) | (rw [if_neg (by omega), if_neg (by omega), if_neg (by omega), if_pos (by omega)]; try rfl) | (rw [if_neg (by omega), if_neg (by omega), if_neg (by omega), if_neg (by omega)]; try rfl)) dX6_pair_70
          · refine nr_top (congrArg nI h5) ?_
            refine lv_tableIn (off := 37) (tgt := 71) hx hb dX6_pair_34 (by decide) (by decide) rfl (by decide) ?_
            refine lv_aload_n hx hb dX6_pair_71 rfl (lv_at hl 0 rfl) ?_
            refine nr_const (v := 0) hx hb dX6_pair_72 rfl ?_
            refine lv_iload_n hx hb dX6_pair_73 rfl (lv_at hl 1 rfl) ?_
            refine lv_iload_n hx hb dX6_pair_74 rfl (lv_at hl 2 rfl) ?_
            refine rcV (As := [.int (nI 0), .int (nI a), .int (nI b)]) (wl := [(z0, .inr (6, fs)), (z1, .inl (G.2 0, 404, .inl (nA M)))]) ⟨hx, hb, hml, hown, hts⟩ (c_X6_share l G z0 z1 fs M 0 a b hf0 (by omega) (by omega) (by omega) hO) (cwV 3 hts gX6_pair_X6_share rfl rfl rfl (by decide +kernel) ⟨Nat.le_of_ble_eq_true rfl, Nat.le_of_ble_eq_true rfl⟩) hK hP 6 0 rfl rfl rfl hl.1 rfl (Nat.le_of_ble_eq_true rfl) dX6_pair_75 ⟨Nat.zero_le _, Nat.zero_le _⟩ ?_
            exact rret hx hb hr hlk (by unfold aPair; rw [if_pos ⟨by assumption, by assumption⟩, if_pos ⟨by assumption, by assumption⟩, nn_n (by omega), nn_n (by omega), nn_n (by omega)]; first | (rw [if_pos (by omega)]; try rfl) | (rw [if_neg (by omega), if_pos (by omega)]; try rfl) | (rw [if_neg (by omega), if_neg (by omega), if_pos (by omega)]; try rfl) | (rw [if_neg (by omega), if_neg (by omega), if_neg (by omega), if_pos (by omega)]; try rfl) | (rw [if_neg (by omega), if_neg (by omega), if_neg (by omega), if_neg (by omega)]; try rfl)) dX6_pair_78
          · refine nr_top (congrArg nI h5) ?_
            refine lv_tableIn (off := 45) (tgt := 79) hx hb dX6_pair_34 (by decide) (by decide) rfl (by decide) ?_
            refine lv_aload_n hx hb dX6_pair_79 rfl (lv_at hl 0 rfl) ?_
            refine nr_const (v := 0) hx hb dX6_pair_80 rfl ?_
            refine lv_iload_n hx hb dX6_pair_81 rfl (lv_at hl 1 rfl) ?_
            refine lv_iload_n hx hb dX6_pair_82 rfl (lv_at hl 2 rfl) ?_
            refine rcV (As := [.int (nI 0), .int (nI a), .int (nI b)]) (wl := [(z0, .inr (6, fs)), (z1, .inl (G.2 0, 404, .inl (nA M)))]) ⟨hx, hb, hml, hown, hts⟩ (c_X6_seems l G z0 z1 fs M 0 a b hf0 h0 (by omega) (by omega) (by omega) hO) (cwV 3 hts gX6_pair_X6_seems rfl rfl rfl (by decide +kernel) ⟨Nat.le_of_ble_eq_true rfl, Nat.le_of_ble_eq_true rfl⟩) hK hP 6 0 rfl rfl rfl hl.1 rfl (Nat.le_of_ble_eq_true rfl) dX6_pair_83 ⟨Nat.zero_le _, Nat.zero_le _⟩ ?_
            exact rret hx hb hr hlk (by unfold aPair; rw [if_pos ⟨by assumption, by assumption⟩, if_pos ⟨by assumption, by assumption⟩, nn_n (by omega), nn_n (by omega), nn_n (by omega)]; first | (rw [if_pos (by omega)]; try rfl) | (rw [if_neg (by omega), if_pos (by omega)]; try rfl) | (rw [if_neg (by omega), if_neg (by omega), if_pos (by omega)]; try rfl) | (rw [if_neg (by omega), if_neg (by omega), if_neg (by omega), if_pos (by omega)]; try rfl) | (rw [if_neg (by omega), if_neg (by omega), if_neg (by omega), if_neg (by omega)]; try rfl)) dX6_pair_86
          · refine nr_top (congrArg nI h5) ?_
            refine lv_tableIn (off := 53) (tgt := 87) hx hb dX6_pair_34 (by decide) (by decide) rfl (by decide) ?_
            refine lv_aload_n hx hb dX6_pair_87 rfl (lv_at hl 0 rfl) ?_
            refine nr_const (v := 0) hx hb dX6_pair_88 rfl ?_
            refine lv_iload_n hx hb dX6_pair_89 rfl (lv_at hl 1 rfl) ?_
            refine lv_iload_n hx hb dX6_pair_90 rfl (lv_at hl 2 rfl) ?_
            refine rcV (As := [.int (nI 0), .int (nI a), .int (nI b)]) (wl := [(z0, .inr (6, fs)), (z1, .inl (G.2 0, 404, .inl (nA M)))]) ⟨hx, hb, hml, hown, hts⟩ (c_X6_envy l G z0 z1 fs M 0 a b hf0 h0 (by omega) (by omega) (by omega) hO) (cwV 3 hts gX6_pair_X6_envy rfl rfl rfl (by decide +kernel) ⟨Nat.le_of_ble_eq_true rfl, Nat.le_of_ble_eq_true rfl⟩) hK hP 6 0 rfl rfl rfl hl.1 rfl (Nat.le_of_ble_eq_true rfl) dX6_pair_91 ⟨Nat.zero_le _, Nat.zero_le _⟩ ?_
            exact rret hx hb hr hlk (by unfold aPair; rw [if_pos ⟨by assumption, by assumption⟩, if_pos ⟨by assumption, by assumption⟩, nn_n (by omega), nn_n (by omega), nn_n (by omega)]; first | (rw [if_pos (by omega)]; try rfl) | (rw [if_neg (by omega), if_pos (by omega)]; try rfl) | (rw [if_neg (by omega), if_neg (by omega), if_pos (by omega)]; try rfl) | (rw [if_neg (by omega), if_neg (by omega), if_neg (by omega), if_pos (by omega)]; try rfl) | (rw [if_neg (by omega), if_neg (by omega), if_neg (by omega), if_neg (by omega)]; try rfl)) dX6_pair_94
          · refine lv_tableOut (tgt := 95) hx hb dX6_pair_34 (by rw [nI_toInt (by omega)]; omega) (by decide) ?_
            refine lv_aload_n hx hb dX6_pair_95 rfl (lv_at hl 0 rfl) ?_
            refine nr_const (v := 0) hx hb dX6_pair_96 rfl ?_
            refine lv_iload_n hx hb dX6_pair_97 rfl (lv_at hl 1 rfl) ?_
            refine lv_iload_n hx hb dX6_pair_98 rfl (lv_at hl 2 rfl) ?_
            refine rcV (As := [.int (nI 0), .int (nI a), .int (nI b)]) (wl := [(z0, .inr (6, fs)), (z1, .inl (G.2 0, 404, .inl (nA M)))]) ⟨hx, hb, hml, hown, hts⟩ (c_X6_reason l G z0 z1 fs M 0 a b hf0 h0 (by omega) (by omega) (by omega) hO) (cwV 3 hts gX6_pair_X6_reason rfl rfl rfl (by decide +kernel) ⟨Nat.le_of_ble_eq_true rfl, Nat.le_of_ble_eq_true rfl⟩) hK hP 6 0 rfl rfl rfl hl.1 rfl (Nat.le_of_ble_eq_true rfl) dX6_pair_99 ⟨Nat.zero_le _, Nat.zero_le _⟩ ?_
            exact rret hx hb hr hlk (by unfold aPair; rw [if_pos ⟨by assumption, by assumption⟩, if_pos ⟨by assumption, by assumption⟩, nn_n (by omega), nn_n (by omega), nn_n (by omega)]; first | (rw [if_pos (by omega)]; try rfl) | (rw [if_neg (by omega), if_pos (by omega)]; try rfl) | (rw [if_neg (by omega), if_neg (by omega), if_pos (by omega)]; try rfl) | (rw [if_neg (by omega), if_neg (by omega), if_neg (by omega), if_pos (by omega)]; try rfl) | (rw [if_neg (by omega), if_neg (by omega), if_neg (by omega), if_neg (by omega)]; try rfl)) dX6_pair_102
        · skip
          refine lv_bipush (v := (-2)) hx hb dX6_pair_30 (by decide +kernel) ?_
          exact rret hx hb hr hlk (by unfold aPair; rw [if_pos ⟨by assumption, by assumption⟩, if_neg (by first | exact fun q => absurd (by assumption) q.1 | exact fun q => absurd q.2 (by assumption))]) dX6_pair_32
    · skip
      refine lv_iconst (v := (-1)) hx hb dX6_pair_14 (by decide +kernel) ?_
      exact rret hx hb hr hlk (by unfold aPair; rw [if_neg (by first | exact fun q => absurd q.1 (by assumption) | exact fun q => absurd q.2 (by assumption))]) dX6_pair_15)
