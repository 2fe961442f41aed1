set_option maxHeartbeats 4000000 in
set_option maxRecDepth 100000 in
theorem c_X6_remembers (l : Launch) (G : gG) (z0 : Nat) (z1 : Nat) (z2 : Nat) (kn : Nat) (z3 : Nat) (ik : Nat) (z4 : Nat) (ln : Nat) (z5 : Nat) (lo : Nat) (M : Nat → Nat) (P : Nat → Nat) (hk : kn ≤ 4) (sz : Nat) : Met l yX6_remembers wsX6_remembers ({ frames := 0, cells := 0, slots := 0, locals := 0 } : Room) (WR G [(z0, .inr (6, [.ref z1, .ref z2, .int (nI kn), .ref z3, .int (nI ik), .ref z4, .int (nI ln), .ref z5, .int (nI lo)])), (z1, .inl (G.2 0, 404, .inl (nA M))), (z2, .inl (G.2 0, 808, .inl (nA P)))] sz [.ref z0]) (va_Qv (fun _ : Unit => True) (WB G (va_A [(z0, .inr (6, [.ref z1, .ref z2, .int (nI kn), .ref z3, .int (nI ik), .ref z4, .int (nI ln), .ref z5, .int (nI lo)])), (z1, .inl (G.2 0, 404, .inl (nA M))), (z2, .inl (G.2 0, 808, .inl (nA P)))] sz) (fun _ : Unit => [(z0, .inr (6, [.ref z1, .ref z2, .int (nI (pushK kn)), .ref z3, .int (nI ik), .ref z4, .int (nI ln), .ref z5, .int (nI lo)])), (z1, .inl (G.2 0, 404, .inl (nA M))), (z2, .inl (G.2 0, 808, .inl (nA (pushP P M kn))))])) (va_A [(z0, .inr (6, [.ref z1, .ref z2, .int (nI kn), .ref z3, .int (nI ik), .ref z4, .int (nI ln), .ref z5, .int (nI lo)])), (z1, .inl (G.2 0, 404, .inl (nA M))), (z2, .inl (G.2 0, 808, .inl (nA P)))] sz)) 0 0 (va_A [(z0, .inr (6, [.ref z1, .ref z2, .int (nI kn), .ref z3, .int (nI ik), .ref z4, .int (nI ln), .ref z5, .int (nI lo)])), (z1, .inl (G.2 0, 404, .inl (nA M))), (z2, .inl (G.2 0, 808, .inl (nA P)))] sz) := wrM (Qf := fun AA => va_Qv (fun _ : Unit => True) (WB G AA (fun _ : Unit => [(z0, .inr (6, [.ref z1, .ref z2, .int (nI (pushK kn)), .ref z3, .int (nI ik), .ref z4, .int (nI ln), .ref z5, .int (nI lo)])), (z1, .inl (G.2 0, 404, .inl (nA M))), (z2, .inl (G.2 0, 808, .inl (nA (pushP P M kn))))])) AA) (C := RX6) rfl (by decide) rfl (Nat.le_of_ble_eq_true rfl) (fun pX eX sX mX bX meX cX ls AA hx hb hr hts hown hlk hml hin hP hK hD hAA hS hl => by
  have hl : lv_has ls 2 [(0, .ref z0)] := hl
  have hF6 : ∀ w ∈ wsX60, w ∈ wsX6_remembers := fun _ h => (List.mem_cons_of_mem _ (List.mem_append_right _ h))
  refine lv_aload_n hx hb dX6_remembers_0 rfl (lv_at hl 0 rfl) ?_
  refine va_get (D := G.1) (ci := 6) (v := .int (nI kn)) (C := RX6) (T := TX6) (N := 9) hx hb hts hF6 hown hK hP 0 rfl rfl 2 (by decide) (hts (.fieldLink RX6 29 "CousinSharesModel" "known" "I") (List.mem_of_getElem? (i := 1) rfl)) (fun _ h9 => h9) rfl dX6_remembers_1 ?_
  refine nr_const (v := 4) hx hb dX6_remembers_4 rfl ?_
  refine br_ine (tgt := 49) hx hb dX6_remembers_5 (by decide) (by omega) (by decide) (fun h1 => ?_) (fun h1 => ?_)
  · skip
    refine nr_const (v := 0) hx hb dX6_remembers_49 rfl ?_
    refine lv_istore_n (lv' := [(1, .int (nI 0)), (0, .ref z0)]) hx hb dX6_remembers_50 rfl hl (by decide) rfl (fun ls hl => ?_)
    rw [← cpA_0 P M (202 * kn)] at hP hD
    refine loop_w (T := Nat) (nL := 2) (fun i => i ≤ 202) (fun i => 202 - i) (fun i => [(0, .ref z0), (1, .int (nI i))]) (fun i => [(z0, .inr (6, [.ref z1, .ref z2, .int (nI kn), .ref z3, .int (nI ik), .ref z4, .int (nI ln), .ref z5, .int (nI lo)])), (z1, .inl (G.2 0, 404, .inl (nA M))), (z2, .inl (G.2 0, 808, .inl (nA (cpA P M (202 * kn) i))))]) ?_ 0 (lv_sub hl [1, 0] rfl) hP hD hS (by omega)
    intro i ls H locs hl hP hD hS hi3 ih2
    have hi3_0 := hi3
    have hi3_0 : i ≤ 202 := hi3_0
    have hl : lv_has ls 2 [(0, .ref z0), (1, .int (nI i))] := hl
    have hP : va_P G.1 vwCl [(z0, .inr (6, [.ref z1, .ref z2, .int (nI kn), .ref z3, .int (nI ik), .ref z4, .int (nI ln), .ref z5, .int (nI lo)])), (z1, .inl (G.2 0, 404, .inl (nA M))), (z2, .inl (G.2 0, 808, .inl (nA (cpA P M (202 * kn) i))))] _ := hP
    have hD : va_D AA [(z0, .inr (6, [.ref z1, .ref z2, .int (nI kn), .ref z3, .int (nI ik), .ref z4, .int (nI ln), .ref z5, .int (nI lo)])), (z1, .inl (G.2 0, 404, .inl (nA M))), (z2, .inl (G.2 0, 808, .inl (nA (cpA P M (202 * kn) i))))] := hD
    refine lv_iload_n hx hb dX6_remembers_51 rfl (lv_at hl 1 rfl) ?_
    refine nr_si (v := 202) hx hb dX6_remembers_52 (by decide +kernel) ?_
    refine br_ige (tgt := 85) hx hb dX6_remembers_55 (by decide) (by omega) (by decide) (fun h4 => ?_) (fun h4 => ?_)
    · skip
      refine lv_aload_n hx hb dX6_remembers_85 rfl (lv_at hl 0 rfl) ?_
      refine lv_dup hx hb dX6_remembers_86 rfl ?_
      refine va_get (D := G.1) (ci := 6) (v := .int (nI kn)) (C := RX6) (T := TX6) (N := 9) hx hb hts hF6 hown hK hP 0 rfl rfl 2 (by decide) (hts (.fieldLink RX6 29 "CousinSharesModel" "known" "I") (List.mem_of_getElem? (i := 1) rfl)) (fun _ h9 => h9) rfl dX6_remembers_87 ?_
      refine nr_const (v := 1) hx hb dX6_remembers_90 rfl ?_
      refine nr_add hx hb dX6_remembers_91 ?_
      refine va_put (D := G.1) (ci := 6) (v := .int (nI (kn + 1))) (ty := .int) (C := RX6) (T := TX6) (N := 9) hx hb hts hF6 tyX6 tyX6_ok nmX6 hown hK hP hD hS 0 rfl rfl 2 (by decide) (hts (.fieldLink RX6 29 "CousinSharesModel" "known" "I") (List.mem_of_getElem? (i := 1) rfl)) (fun _ h9 => h9) rfl (by decide +kernel) rfl rfl (Nat.le_of_ble_eq_true rfl) dX6_remembers_92 (fun H locs hP hD hS => ?_)
      have hP : va_P G.1 vwCl [(z0, .inr (6, [.ref z1, .ref z2, .int (nI (kn + 1)), .ref z3, .int (nI ik), .ref z4, .int (nI ln), .ref z5, .int (nI lo)])), (z1, .inl (G.2 0, 404, .inl (nA M))), (z2, .inl (G.2 0, 808, .inl (nA (cpA P M (202 * kn) i))))] _ := hP
      have hD : va_D AA [(z0, .inr (6, [.ref z1, .ref z2, .int (nI (kn + 1)), .ref z3, .int (nI ik), .ref z4, .int (nI ln), .ref z5, .int (nI lo)])), (z1, .inl (G.2 0, 404, .inl (nA M))), (z2, .inl (G.2 0, 808, .inl (nA (cpA P M (202 * kn) i))))] := hD
      have e2 : i = 202 := (by omega)
      subst e2
      first | rw [pushP_a (by assumption), pushK_a (by assumption)] at hP hD | rw [pushP_b (by assumption), pushK_b (by assumption)] at hP hD
      exact wretv hx hb hr hlk hK hS (()) hP hD (trivial) dX6_remembers_95
    · skip
      refine lv_aload_n hx hb dX6_remembers_58 rfl (lv_at hl 0 rfl) ?_
      refine va_get (D := G.1) (ci := 6) (v := .ref z2) (C := RX6) (T := TX6) (N := 9) hx hb hts hF6 hown hK hP 0 rfl rfl 1 (by decide) (hts (.fieldLink RX6 13 "CousinSharesModel" "past" "[I") (List.mem_of_getElem? (i := 2) rfl)) (fun _ h9 => h9) rfl dX6_remembers_59 ?_
      refine nr_si (v := 202) hx hb dX6_remembers_62 (by decide +kernel) ?_
      refine lv_aload_n hx hb dX6_remembers_65 rfl (lv_at hl 0 rfl) ?_
      refine va_get (D := G.1) (ci := 6) (v := .int (nI kn)) (C := RX6) (T := TX6) (N := 9) hx hb hts hF6 hown hK hP 0 rfl rfl 2 (by decide) (hts (.fieldLink RX6 29 "CousinSharesModel" "known" "I") (List.mem_of_getElem? (i := 1) rfl)) (fun _ h9 => h9) rfl dX6_remembers_66 ?_
      refine nr_mul hx hb dX6_remembers_69 ?_
      refine lv_iload_n hx hb dX6_remembers_70 rfl (lv_at hl 1 rfl) ?_
      refine nr_add hx hb dX6_remembers_71 ?_
      refine lv_aload_n hx hb dX6_remembers_72 rfl (lv_at hl 0 rfl) ?_
      refine va_get (D := G.1) (ci := 6) (v := .ref z1) (C := RX6) (T := TX6) (N := 9) hx hb hts hF6 hown hK hP 0 rfl rfl 0 (by decide) (hts (.fieldLink RX6 7 "CousinSharesModel" "s" "[I") (List.mem_of_getElem? (i := 3) rfl)) (fun _ h9 => h9) rfl dX6_remembers_73 ?_
      refine lv_iload_n hx hb dX6_remembers_76 rfl (lv_at hl 1 rfl) ?_
      refine nr_ald hx hb hK hP 1 rfl (by omega) (by decide) dX6_remembers_77 ?_
      refine nr_ast (ws' := [(z0, .inr (6, [.ref z1, .ref z2, .int (nI kn), .ref z3, .int (nI ik), .ref z4, .int (nI ln), .ref z5, .int (nI lo)])), (z1, .inl (G.2 0, 404, .inl (nA M))), (z2, .inl (G.2 0, 808, .inl (nA (va_up (cpA P M (202 * kn) i) ((202 * kn) + i) (M i)))))]) hx hb hK hP hD hS 2 rfl (by omega) (by decide) dX6_remembers_78 rfl (fun H locs hP hD hS => ?_)
      refine nr_inc (d := 1) (v := i + 1) (lv' := [(1, .int (nI (i + 1))), (0, .ref z0)]) hx hb dX6_remembers_79 hl (k := 1) rfl rfl (by decide) rfl (fun ls hl => ?_)
      refine lv_goto (tgt := 51) hx hb dX6_remembers_82 (by decide) ?_
      rw [cpA_s] at hP hD
      exact ih2 (i + 1) ls H locs (lv_sub hl [1, 0] rfl) hP hD hS (by omega) (by omega)
  · skip
    refine nr_const (v := 0) hx hb dX6_remembers_8 rfl ?_
    refine lv_istore_n (lv' := [(1, .int (nI 0)), (0, .ref z0)]) hx hb dX6_remembers_9 rfl hl (by decide) rfl (fun ls hl => ?_)
    rw [← shf_0 P] at hP hD
    refine loop_w (T := Nat) (nL := 2) (fun i => i ≤ 606) (fun i => 606 - i) (fun i => [(0, .ref z0), (1, .int (nI i))]) (fun i => [(z0, .inr (6, [.ref z1, .ref z2, .int (nI kn), .ref z3, .int (nI ik), .ref z4, .int (nI ln), .ref z5, .int (nI lo)])), (z1, .inl (G.2 0, 404, .inl (nA M))), (z2, .inl (G.2 0, 808, .inl (nA (shf P i))))]) ?_ 0 (lv_sub hl [1, 0] rfl) hP hD hS (by omega)
    intro i ls H locs hl hP hD hS hi6 ih5
    have hi6_0 := hi6
    have hi6_0 : i ≤ 606 := hi6_0
    have hl : lv_has ls 2 [(0, .ref z0), (1, .int (nI i))] := hl
    have hP : va_P G.1 vwCl [(z0, .inr (6, [.ref z1, .ref z2, .int (nI kn), .ref z3, .int (nI ik), .ref z4, .int (nI ln), .ref z5, .int (nI lo)])), (z1, .inl (G.2 0, 404, .inl (nA M))), (z2, .inl (G.2 0, 808, .inl (nA (shf P i))))] _ := hP
    have hD : va_D AA [(z0, .inr (6, [.ref z1, .ref z2, .int (nI kn), .ref z3, .int (nI ik), .ref z4, .int (nI ln), .ref z5, .int (nI lo)])), (z1, .inl (G.2 0, 404, .inl (nA M))), (z2, .inl (G.2 0, 808, .inl (nA (shf P i))))] := hD
    refine lv_iload_n hx hb dX6_remembers_10 rfl (lv_at hl 1 rfl) ?_
    refine nr_si (v := 606) hx hb dX6_remembers_11 (by decide +kernel) ?_
    refine br_ige (tgt := 39) hx hb dX6_remembers_14 (by decide) (by omega) (by decide) (fun h7 => ?_) (fun h7 => ?_)
    · skip
      have e : i = 606 := (by omega)
      rw [e] at hP hD
      have hP : va_P G.1 vwCl [(z0, .inr (6, [.ref z1, .ref z2, .int (nI kn), .ref z3, .int (nI ik), .ref z4, .int (nI ln), .ref z5, .int (nI lo)])), (z1, .inl (G.2 0, 404, .inl (nA M))), (z2, .inl (G.2 0, 808, .inl (nA (shf P 606))))] _ := hP
      have hD : va_D AA [(z0, .inr (6, [.ref z1, .ref z2, .int (nI kn), .ref z3, .int (nI ik), .ref z4, .int (nI ln), .ref z5, .int (nI lo)])), (z1, .inl (G.2 0, 404, .inl (nA M))), (z2, .inl (G.2 0, 808, .inl (nA (shf P 606))))] := hD
      refine lv_aload_n hx hb dX6_remembers_39 rfl (lv_at hl 0 rfl) ?_
      refine lv_dup hx hb dX6_remembers_40 rfl ?_
      refine va_get (D := G.1) (ci := 6) (v := .int (nI kn)) (C := RX6) (T := TX6) (N := 9) hx hb hts hF6 hown hK hP 0 rfl rfl 2 (by decide) (hts (.fieldLink RX6 29 "CousinSharesModel" "known" "I") (List.mem_of_getElem? (i := 1) rfl)) (fun _ h9 => h9) rfl dX6_remembers_41 ?_
      refine nr_const (v := 1) hx hb dX6_remembers_44 rfl ?_
      refine nr_sub hx hb dX6_remembers_45 (by omega) ?_
      refine va_put (D := G.1) (ci := 6) (v := .int (nI (kn - 1))) (ty := .int) (C := RX6) (T := TX6) (N := 9) hx hb hts hF6 tyX6 tyX6_ok nmX6 hown hK hP hD hS 0 rfl rfl 2 (by decide) (hts (.fieldLink RX6 29 "CousinSharesModel" "known" "I") (List.mem_of_getElem? (i := 1) rfl)) (fun _ h9 => h9) rfl (by decide +kernel) rfl rfl (Nat.le_of_ble_eq_true rfl) dX6_remembers_46 (fun H locs hP hD hS => ?_)
      have hP : va_P G.1 vwCl [(z0, .inr (6, [.ref z1, .ref z2, .int (nI (kn - 1)), .ref z3, .int (nI ik), .ref z4, .int (nI ln), .ref z5, .int (nI lo)])), (z1, .inl (G.2 0, 404, .inl (nA M))), (z2, .inl (G.2 0, 808, .inl (nA (shf P 606))))] _ := hP
      have hD : va_D AA [(z0, .inr (6, [.ref z1, .ref z2, .int (nI (kn - 1)), .ref z3, .int (nI ik), .ref z4, .int (nI ln), .ref z5, .int (nI lo)])), (z1, .inl (G.2 0, 404, .inl (nA M))), (z2, .inl (G.2 0, 808, .inl (nA (shf P 606))))] := hD
      refine nr_const (v := 0) hx hb dX6_remembers_49 rfl ?_
      refine lv_istore_n (lv' := [(1, .int (nI 0)), (0, .ref z0)]) hx hb dX6_remembers_50 rfl hl (by decide) rfl (fun ls hl => ?_)
      rw [← cpA_0 (shf P 606) M (202 * (kn - 1))] at hP hD
      refine loop_w (T := Nat) (nL := 2) (fun i => i ≤ 202) (fun i => 202 - i) (fun i => [(0, .ref z0), (1, .int (nI i))]) (fun i => [(z0, .inr (6, [.ref z1, .ref z2, .int (nI (kn - 1)), .ref z3, .int (nI ik), .ref z4, .int (nI ln), .ref z5, .int (nI lo)])), (z1, .inl (G.2 0, 404, .inl (nA M))), (z2, .inl (G.2 0, 808, .inl (nA (cpA (shf P 606) M (202 * (kn - 1)) i))))]) ?_ 0 (lv_sub hl [1, 0] rfl) hP hD hS (by omega)
      intro i ls H locs hl hP hD hS hi9 ih8
      have hi9_0 := hi9
      have hi9_0 : i ≤ 202 := hi9_0
      have hl : lv_has ls 2 [(0, .ref z0), (1, .int (nI i))] := hl
      have hP : va_P G.1 vwCl [(z0, .inr (6, [.ref z1, .ref z2, .int (nI (kn - 1)), .ref z3, .int (nI ik), .ref z4, .int (nI ln), .ref z5, .int (nI lo)])), (z1, .inl (G.2 0, 404, .inl (nA M))), (z2, .inl (G.2 0, 808, .inl (nA (cpA (shf P 606) M (202 * (kn - 1)) i))))] _ := hP
      have hD : va_D AA [(z0, .inr (6, [.ref z1, .ref z2, .int (nI (kn - 1)), .ref z3, .int (nI ik), .ref z4, .int (nI ln), .ref z5, .int (nI lo)])), (z1, .inl (G.2 0, 404, .inl (nA M))), (z2, .inl (G.2 0, 808, .inl (nA (cpA (shf P 606) M (202 * (kn - 1)) i))))] := hD
      refine lv_iload_n hx hb dX6_remembers_51 rfl (lv_at hl 1 rfl) ?_
      refine nr_si (v := 202) hx hb dX6_remembers_52 (by decide +kernel) ?_
      refine br_ige (tgt := 85) hx hb dX6_remembers_55 (by decide) (by omega) (by decide) (fun h10 => ?_) (fun h10 => ?_)
      · skip
        refine lv_aload_n hx hb dX6_remembers_85 rfl (lv_at hl 0 rfl) ?_
        refine lv_dup hx hb dX6_remembers_86 rfl ?_
        refine va_get (D := G.1) (ci := 6) (v := .int (nI (kn - 1))) (C := RX6) (T := TX6) (N := 9) hx hb hts hF6 hown hK hP 0 rfl rfl 2 (by decide) (hts (.fieldLink RX6 29 "CousinSharesModel" "known" "I") (List.mem_of_getElem? (i := 1) rfl)) (fun _ h9 => h9) rfl dX6_remembers_87 ?_
        refine nr_const (v := 1) hx hb dX6_remembers_90 rfl ?_
        refine nr_add hx hb dX6_remembers_91 ?_
        refine va_put (D := G.1) (ci := 6) (v := .int (nI ((kn - 1) + 1))) (ty := .int) (C := RX6) (T := TX6) (N := 9) hx hb hts hF6 tyX6 tyX6_ok nmX6 hown hK hP hD hS 0 rfl rfl 2 (by decide) (hts (.fieldLink RX6 29 "CousinSharesModel" "known" "I") (List.mem_of_getElem? (i := 1) rfl)) (fun _ h9 => h9) rfl (by decide +kernel) rfl rfl (Nat.le_of_ble_eq_true rfl) dX6_remembers_92 (fun H locs hP hD hS => ?_)
        have hP : va_P G.1 vwCl [(z0, .inr (6, [.ref z1, .ref z2, .int (nI ((kn - 1) + 1)), .ref z3, .int (nI ik), .ref z4, .int (nI ln), .ref z5, .int (nI lo)])), (z1, .inl (G.2 0, 404, .inl (nA M))), (z2, .inl (G.2 0, 808, .inl (nA (cpA (shf P 606) M (202 * (kn - 1)) i))))] _ := hP
        have hD : va_D AA [(z0, .inr (6, [.ref z1, .ref z2, .int (nI ((kn - 1) + 1)), .ref z3, .int (nI ik), .ref z4, .int (nI ln), .ref z5, .int (nI lo)])), (z1, .inl (G.2 0, 404, .inl (nA M))), (z2, .inl (G.2 0, 808, .inl (nA (cpA (shf P 606) M (202 * (kn - 1)) i))))] := hD
        have e2 : i = 202 := (by omega)
        subst e2
        first | rw [pushP_a (by assumption), pushK_a (by assumption)] at hP hD | rw [pushP_b (by assumption), pushK_b (by assumption)] at hP hD
        exact wretv hx hb hr hlk hK hS (()) hP hD (trivial) dX6_remembers_95
      · skip
        refine lv_aload_n hx hb dX6_remembers_58 rfl (lv_at hl 0 rfl) ?_
        refine va_get (D := G.1) (ci := 6) (v := .ref z2) (C := RX6) (T := TX6) (N := 9) hx hb hts hF6 hown hK hP 0 rfl rfl 1 (by decide) (hts (.fieldLink RX6 13 "CousinSharesModel" "past" "[I") (List.mem_of_getElem? (i := 2) rfl)) (fun _ h9 => h9) rfl dX6_remembers_59 ?_
        refine nr_si (v := 202) hx hb dX6_remembers_62 (by decide +kernel) ?_
        refine lv_aload_n hx hb dX6_remembers_65 rfl (lv_at hl 0 rfl) ?_
        refine va_get (D := G.1) (ci := 6) (v := .int (nI (kn - 1))) (C := RX6) (T := TX6) (N := 9) hx hb hts hF6 hown hK hP 0 rfl rfl 2 (by decide) (hts (.fieldLink RX6 29 "CousinSharesModel" "known" "I") (List.mem_of_getElem? (i := 1) rfl)) (fun _ h9 => h9) rfl dX6_remembers_66 ?_
        refine nr_mul hx hb dX6_remembers_69 ?_
        refine lv_iload_n hx hb dX6_remembers_70 rfl (lv_at hl 1 rfl) ?_
        refine nr_add hx hb dX6_remembers_71 ?_
        refine lv_aload_n hx hb dX6_remembers_72 rfl (lv_at hl 0 rfl) ?_
        refine va_get (D := G.1) (ci := 6) (v := .ref z1) (C := RX6) (T := TX6) (N := 9) hx hb hts hF6 hown hK hP 0 rfl rfl 0 (by decide) (hts (.fieldLink RX6 7 "CousinSharesModel" "s" "[I") (List.mem_of_getElem? (i := 3) rfl)) (fun _ h9 => h9) rfl dX6_remembers_73 ?_
        refine lv_iload_n hx hb dX6_remembers_76 rfl (lv_at hl 1 rfl) ?_
        refine nr_ald hx hb hK hP 1 rfl (by omega) (by decide) dX6_remembers_77 ?_
        refine nr_ast (ws' := [(z0, .inr (6, [.ref z1, .ref z2, .int (nI (kn - 1)), .ref z3, .int (nI ik), .ref z4, .int (nI ln), .ref z5, .int (nI lo)])), (z1, .inl (G.2 0, 404, .inl (nA M))), (z2, .inl (G.2 0, 808, .inl (nA (va_up (cpA (shf P 606) M (202 * (kn - 1)) i) ((202 * (kn - 1)) + i) (M i)))))]) hx hb hK hP hD hS 2 rfl (by omega) (by decide) dX6_remembers_78 rfl (fun H locs hP hD hS => ?_)
        refine nr_inc (d := 1) (v := i + 1) (lv' := [(1, .int (nI (i + 1))), (0, .ref z0)]) hx hb dX6_remembers_79 hl (k := 1) rfl rfl (by decide) rfl (fun ls hl => ?_)
        refine lv_goto (tgt := 51) hx hb dX6_remembers_82 (by decide) ?_
        rw [cpA_s] at hP hD
        exact ih8 (i + 1) ls H locs (lv_sub hl [1, 0] rfl) hP hD hS (by omega) (by omega)
    · skip
      refine lv_aload_n hx hb dX6_remembers_17 rfl (lv_at hl 0 rfl) ?_
      refine va_get (D := G.1) (ci := 6) (v := .ref z2) (C := RX6) (T := TX6) (N := 9) hx hb hts hF6 hown hK hP 0 rfl rfl 1 (by decide) (hts (.fieldLink RX6 13 "CousinSharesModel" "past" "[I") (List.mem_of_getElem? (i := 2) rfl)) (fun _ h9 => h9) rfl dX6_remembers_18 ?_
      refine lv_iload_n hx hb dX6_remembers_21 rfl (lv_at hl 1 rfl) ?_
      refine lv_aload_n hx hb dX6_remembers_22 rfl (lv_at hl 0 rfl) ?_
      refine va_get (D := G.1) (ci := 6) (v := .ref z2) (C := RX6) (T := TX6) (N := 9) hx hb hts hF6 hown hK hP 0 rfl rfl 1 (by decide) (hts (.fieldLink RX6 13 "CousinSharesModel" "past" "[I") (List.mem_of_getElem? (i := 2) rfl)) (fun _ h9 => h9) rfl dX6_remembers_23 ?_
      refine nr_si (v := 202) hx hb dX6_remembers_26 (by decide +kernel) ?_
      refine lv_iload_n hx hb dX6_remembers_29 rfl (lv_at hl 1 rfl) ?_
      refine nr_add hx hb dX6_remembers_30 ?_
      refine nr_ald hx hb hK hP 2 rfl (by omega) (by decide) dX6_remembers_31 ?_
      refine nr_ast (ws' := [(z0, .inr (6, [.ref z1, .ref z2, .int (nI kn), .ref z3, .int (nI ik), .ref z4, .int (nI ln), .ref z5, .int (nI lo)])), (z1, .inl (G.2 0, 404, .inl (nA M))), (z2, .inl (G.2 0, 808, .inl (nA (va_up (shf P i) i ((shf P i) (202 + i))))))]) hx hb hK hP hD hS 2 rfl (by omega) (by decide) dX6_remembers_32 rfl (fun H locs hP hD hS => ?_)
      refine nr_inc (d := 1) (v := i + 1) (lv' := [(1, .int (nI (i + 1))), (0, .ref z0)]) hx hb dX6_remembers_33 hl (k := 1) rfl rfl (by decide) rfl (fun ls hl => ?_)
      refine lv_goto (tgt := 10) hx hb dX6_remembers_36 (by decide) ?_
      rw [shf_s] at hP hD
      exact ih5 (i + 1) ls H locs (lv_sub hl [1, 0] rfl) hP hD hS (by omega) (by omega))

set_option maxHeartbeats 4000000 in
set_option maxRecDepth 100000 in
theorem c_X6_copies (l : Launch) (G : gG) (z0 : Nat) (z1 : Nat) (fs : List Value) (M : Nat → Nat) (hf0 : fs[0]? = some (.ref z1)) (sz : Nat) : Met l yX6_copies wsX6_copies ({ frames := 0, cells := 0, slots := 0, locals := 0 } : Room) (WR G [(z0, .inr (6, fs)), (z1, .inl (G.2 0, 404, .inl (nA M)))] sz [.ref z0]) (va_Qv (fun _ : Unit => True) (WB G (va_A [(z0, .inr (6, fs)), (z1, .inl (G.2 0, 404, .inl (nA M)))] sz) (fun _ : Unit => [(z0, .inr (6, fs)), (z1, .inl (G.2 0, 404, .inl (nA (cpA M M 202 202))))])) (va_A [(z0, .inr (6, fs)), (z1, .inl (G.2 0, 404, .inl (nA M)))] sz)) 0 0 (va_A [(z0, .inr (6, fs)), (z1, .inl (G.2 0, 404, .inl (nA M)))] sz) := wrM (Qf := fun AA => va_Qv (fun _ : Unit => True) (WB G AA (fun _ : Unit => [(z0, .inr (6, fs)), (z1, .inl (G.2 0, 404, .inl (nA (cpA M M 202 202))))])) AA) (C := RX6) rfl (by decide) rfl (Nat.le_of_ble_eq_true rfl) (fun pX eX sX mX bX meX cX ls AA hx hb hr hts hown hlk hml hin hP hK hD hAA hS hl => by
  have hl : lv_has ls 2 [(0, .ref z0)] := hl
  have hF6 : ∀ w ∈ wsX60, w ∈ wsX6_copies := fun _ h => (List.mem_cons_of_mem _ (List.mem_append_right _ h))
  refine nr_const (v := 0) hx hb dX6_copies_0 rfl ?_
  refine lv_istore_n (lv' := [(1, .int (nI 0)), (0, .ref z0)]) hx hb dX6_copies_1 rfl hl (by decide) rfl (fun ls hl => ?_)
  rw [← cpA_0 M M 202] at hP hD
  refine loop_w (T := Nat) (nL := 2) (fun i => i ≤ 202) (fun i => 202 - i) (fun i => [(0, .ref z0), (1, .int (nI i))]) (fun i => [(z0, .inr (6, fs)), (z1, .inl (G.2 0, 404, .inl (nA (cpA M M 202 i))))]) ?_ 0 (lv_sub hl [1, 0] rfl) hP hD hS (by omega)
  intro i ls H locs hl hP hD hS hi2 ih1
  have hi2_0 := hi2
  have hi2_0 : i ≤ 202 := hi2_0
  have hl : lv_has ls 2 [(0, .ref z0), (1, .int (nI i))] := hl
  have hP : va_P G.1 vwCl [(z0, .inr (6, fs)), (z1, .inl (G.2 0, 404, .inl (nA (cpA M M 202 i))))] _ := hP
  have hD : va_D AA [(z0, .inr (6, fs)), (z1, .inl (G.2 0, 404, .inl (nA (cpA M M 202 i))))] := hD
  refine lv_iload_n hx hb dX6_copies_2 rfl (lv_at hl 1 rfl) ?_
  refine nr_si (v := 202) hx hb dX6_copies_3 (by decide +kernel) ?_
  refine br_ige (tgt := 31) hx hb dX6_copies_6 (by decide) (by omega) (by decide) (fun h3 => ?_) (fun h3 => ?_)
  · skip
    have e2 : i = 202 := (by omega)
    subst e2
    exact wretv hx hb hr hlk hK hS (()) hP hD (trivial) dX6_copies_31
  · skip
    refine lv_aload_n hx hb dX6_copies_9 rfl (lv_at hl 0 rfl) ?_
    refine va_get (D := G.1) (ci := 6) (v := .ref z1) (C := RX6) (T := TX6) (N := 9) hx hb hts hF6 hown hK hP 0 rfl rfl 0 (by decide) (hts (.fieldLink RX6 7 "CousinSharesModel" "s" "[I") (List.mem_of_getElem? (i := 1) rfl)) (fun _ h9 => h9) hf0 dX6_copies_10 ?_
    refine nr_si (v := 202) hx hb dX6_copies_13 (by decide +kernel) ?_
    refine lv_iload_n hx hb dX6_copies_16 rfl (lv_at hl 1 rfl) ?_
    refine nr_add hx hb dX6_copies_17 ?_
    refine lv_aload_n hx hb dX6_copies_18 rfl (lv_at hl 0 rfl) ?_
    refine va_get (D := G.1) (ci := 6) (v := .ref z1) (C := RX6) (T := TX6) (N := 9) hx hb hts hF6 hown hK hP 0 rfl rfl 0 (by decide) (hts (.fieldLink RX6 7 "CousinSharesModel" "s" "[I") (List.mem_of_getElem? (i := 1) rfl)) (fun _ h9 => h9) hf0 dX6_copies_19 ?_
    refine lv_iload_n hx hb dX6_copies_22 rfl (lv_at hl 1 rfl) ?_
    refine nr_ald hx hb hK hP 1 rfl (by omega) (by decide) dX6_copies_23 ?_
    refine nr_ast (ws' := [(z0, .inr (6, fs)), (z1, .inl (G.2 0, 404, .inl (nA (va_up (cpA M M 202 i) (202 + i) ((cpA M M 202 i) i)))))]) hx hb hK hP hD hS 1 rfl (by omega) (by decide) dX6_copies_24 rfl (fun H locs hP hD hS => ?_)
    refine nr_inc (d := 1) (v := i + 1) (lv' := [(1, .int (nI (i + 1))), (0, .ref z0)]) hx hb dX6_copies_25 hl (k := 1) rfl rfl (by decide) rfl (fun ls hl => ?_)
    refine lv_goto (tgt := 2) hx hb dX6_copies_28 (by decide) ?_
    rw [cpS_s M (by omega)] at hP hD
    exact ih1 (i + 1) ls H locs (lv_sub hl [1, 0] rfl) hP hD hS (by omega) (by omega))

set_option maxHeartbeats 4000000 in
set_option maxRecDepth 100000 in
theorem c_X6_orders (l : Launch) (G : gG) (z0 : Nat) (z1 : Nat) (fs : List Value) (M : Nat → Nat) (z5 : Nat) (Od : Nat → Nat) (hf0 : fs[0]? = some (.ref z1)) (hf7 : fs[7]? = some (.ref z5)) (h0 : ok M) (sz : Nat) : Met l yX6_orders wsX6_orders ({ frames := 4, cells := 0, slots := 0, locals := 91 } : Room) (WR G [(z0, .inr (6, fs)), (z1, .inl (G.2 0, 404, .inl (nA M))), (z5, .inl (G.2 0, 7, .inl (nA Od)))] sz [.ref z0]) (va_Qv (fun _ : Unit => True) (WB G (va_A [(z0, .inr (6, fs)), (z1, .inl (G.2 0, 404, .inl (nA M))), (z5, .inl (G.2 0, 7, .inl (nA Od)))] sz) (fun _ : Unit => [(z0, .inr (6, fs)), (z1, .inl (G.2 0, 404, .inl (nA M))), (z5, .inl (G.2 0, 7, .inl (nA (oa M Od 7))))])) (va_A [(z0, .inr (6, fs)), (z1, .inl (G.2 0, 404, .inl (nA M))), (z5, .inl (G.2 0, 7, .inl (nA Od)))] sz)) 0 0 (va_A [(z0, .inr (6, fs)), (z1, .inl (G.2 0, 404, .inl (nA M))), (z5, .inl (G.2 0, 7, .inl (nA Od)))] sz) := wrM (Qf := fun AA => va_Qv (fun _ : Unit => True) (WB G AA (fun _ : Unit => [(z0, .inr (6, fs)), (z1, .inl (G.2 0, 404, .inl (nA M))), (z5, .inl (G.2 0, 7, .inl (nA (oa M Od 7))))])) AA) (C := RX6) rfl (by decide) rfl (Nat.le_of_ble_eq_true rfl) (fun pX eX sX mX bX meX cX ls AA hx hb hr hts hown hlk hml hin hP hK hD hAA hS hl => by
  have hl : lv_has ls 2 [(0, .ref z0)] := hl
  have hF6 : ∀ w ∈ wsX60, w ∈ wsX6_orders := fun _ h => (List.mem_cons_of_mem _ (List.mem_append_right _ h))
  refine nr_const (v := 0) hx hb dX6_orders_0 rfl ?_
  refine lv_istore_n (lv' := [(1, .int (nI 0)), (0, .ref z0)]) hx hb dX6_orders_1 rfl hl (by decide) rfl (fun ls hl => ?_)
  refine loop_w (T := Nat) (nL := 2) (fun i => i ≤ 7) (fun i => 7 - i) (fun i => [(0, .ref z0), (1, .int (nI i))]) (fun i => [(z0, .inr (6, fs)), (z1, .inl (G.2 0, 404, .inl (nA M))), (z5, .inl (G.2 0, 7, .inl (nA (oa M Od i))))]) ?_ 0 (lv_sub hl [1, 0] rfl) hP hD hS (by omega)
  intro i ls H locs hl hP hD hS hi2 ih1
  have hi2_0 := hi2
  have hi2_0 : i ≤ 7 := hi2_0
  have hl : lv_has ls 2 [(0, .ref z0), (1, .int (nI i))] := hl
  have hP : va_P G.1 vwCl [(z0, .inr (6, fs)), (z1, .inl (G.2 0, 404, .inl (nA M))), (z5, .inl (G.2 0, 7, .inl (nA (oa M Od i))))] _ := hP
  have hD : va_D AA [(z0, .inr (6, fs)), (z1, .inl (G.2 0, 404, .inl (nA M))), (z5, .inl (G.2 0, 7, .inl (nA (oa M Od i))))] := hD
  refine lv_iload_n hx hb dX6_orders_2 rfl (lv_at hl 1 rfl) ?_
  refine nr_bi (v := 7) hx hb dX6_orders_3 (by decide +kernel) ?_
  refine br_ige (tgt := 25) hx hb dX6_orders_5 (by decide) (by omega) (by decide) (fun h3 => ?_) (fun h3 => ?_)
  · skip
    have e2 : i = 7 := (by omega)
    subst e2
    exact wretv hx hb hr hlk hK hS (()) hP hD (trivial) dX6_orders_25
  · skip
    refine lv_aload_n hx hb dX6_orders_8 rfl (lv_at hl 0 rfl) ?_
    refine va_get (D := G.1) (ci := 6) (v := .ref z5) (C := RX6) (T := TX6) (N := 9) hx hb hts hF6 hown hK hP 0 rfl rfl 7 (by decide) (hts (.fieldLink RX6 22 "CousinSharesModel" "order" "[I") (List.mem_of_getElem? (i := 1) rfl)) (fun _ h9 => h9) hf7 dX6_orders_9 ?_
    refine lv_aload_n hx hb dX6_orders_12 rfl (lv_at hl 0 rfl) ?_
    refine lv_iload_n hx hb dX6_orders_13 rfl (lv_at hl 1 rfl) ?_
    refine rcV (As := [.int (nI i)]) (wl := [(z0, .inr (6, fs)), (z1, .inl (G.2 0, 404, .inl (nA M)))]) ⟨hx, hb, hml, hown, hts⟩ (c_X6_placeOf l G z0 z1 fs M i hf0 h0 (by omega)) (cwV 1 hts gX6_orders_X6_placeOf rfl rfl rfl (by decide +kernel) ⟨Nat.le_of_ble_eq_true rfl, Nat.le_of_ble_eq_true rfl⟩) hK (hP.sub [0, 1] rfl) 6 0 rfl rfl rfl hl.1 rfl (Nat.le_of_ble_eq_true rfl) dX6_orders_14 ⟨Nat.zero_le _, Nat.zero_le _⟩ ?_
    refine lv_iload_n hx hb dX6_orders_17 rfl (lv_at hl 1 rfl) ?_
    have hp7 := pl_lt h0 (show i < 7 by omega)
    refine nr_ast (ws' := [(z0, .inr (6, fs)), (z1, .inl (G.2 0, 404, .inl (nA M))), (z5, .inl (G.2 0, 7, .inl (nA (va_up (oa M Od i) (pl M i) i))))]) hx hb hK hP hD hS 2 rfl (by omega) (by decide) dX6_orders_18 rfl (fun H locs hP hD hS => ?_)
    refine nr_inc (d := 1) (v := i + 1) (lv' := [(1, .int (nI (i + 1))), (0, .ref z0)]) hx hb dX6_orders_19 hl (k := 1) rfl rfl (by decide) rfl (fun ls hl => ?_)
    refine lv_goto (tgt := 2) hx hb dX6_orders_22 (by decide) ?_
    exact ih1 (i + 1) ls H locs (lv_sub hl [1, 0] rfl) hP hD hS (by omega) (by omega))

set_option maxHeartbeats 4000000 in
set_option maxRecDepth 100000 in
theorem c_X6_gets (l : Launch) (G : gG) (z0 : Nat) (z1 : Nat) (fs : List Value) (M : Nat → Nat) (p : Nat) (a : Nat) (b : Nat) (c0 : Nat) (hf0 : fs[0]? = some (.ref z1)) (hp : p ≤ 202) (hab : a ≤ b) (hb24 : b ≤ 24) (sz : Nat) : Met l yX6_gets wsX6_gets ({ frames := 0, cells := 0, slots := 0, locals := 0 } : Room) (WR G [(z0, .inr (6, fs)), (z1, .inl (G.2 0, 404, .inl (nA M)))] sz [.ref z0, .int (nI p), .int (nI a), .int (nI b), .int (nI c0)]) (va_Qv (fun _ : Unit => True) (WB G (va_A [(z0, .inr (6, fs)), (z1, .inl (G.2 0, 404, .inl (nA M)))] sz) (fun _ : Unit => [(z0, .inr (6, fs)), (z1, .inl (G.2 0, 404, .inl (nA (own M p a b c0))))])) (va_A [(z0, .inr (6, fs)), (z1, .inl (G.2 0, 404, .inl (nA M)))] sz)) 0 0 (va_A [(z0, .inr (6, fs)), (z1, .inl (G.2 0, 404, .inl (nA M)))] sz) := wrM (Qf := fun AA => va_Qv (fun _ : Unit => True) (WB G AA (fun _ : Unit => [(z0, .inr (6, fs)), (z1, .inl (G.2 0, 404, .inl (nA (own M p a b c0))))])) AA) (C := RX6) rfl (by decide) rfl (Nat.le_of_ble_eq_true rfl) (fun pX eX sX mX bX meX cX ls AA hx hb hr hts hown hlk hml hin hP hK hD hAA hS hl => by
  have hl : lv_has ls 6 [(0, .ref z0), (1, .int (nI p)), (2, .int (nI a)), (3, .int (nI b)), (4, .int (nI c0))] := hl
  have hF6 : ∀ w ∈ wsX60, w ∈ wsX6_gets := fun _ h => (List.mem_cons_of_mem _ (List.mem_append_right _ h))
  refine lv_iload_n hx hb dX6_gets_0 rfl (lv_at hl 2 rfl) ?_
  refine lv_istore (lv' := [(5, .int (nI a)), (0, .ref z0), (1, .int (nI p)), (2, .int (nI a)), (3, .int (nI b)), (4, .int (nI c0))]) hx hb dX6_gets_1 hl (by decide) rfl (fun ls hl => ?_)
  rw [← own_0 M p a c0] at hP hD
  refine loop_w (T := Nat) (nL := 6) (fun i => a + i ≤ b) (fun i => b - (a + i)) (fun i => [(0, .ref z0), (1, .int (nI p)), (2, .int (nI a)), (3, .int (nI b)), (4, .int (nI c0)), (5, .int (nI (a + i)))]) (fun i => [(z0, .inr (6, fs)), (z1, .inl (G.2 0, 404, .inl (nA (own M p a (a + i) c0))))]) ?_ 0 (lv_sub hl [1, 2, 3, 4, 5, 0] rfl) hP hD hS (by omega)
  intro i ls H locs hl hP hD hS hi2 ih1
  have hi2_0 := hi2
  have hi2_0 : a + i ≤ b := hi2_0
  have hl : lv_has ls 6 [(0, .ref z0), (1, .int (nI p)), (2, .int (nI a)), (3, .int (nI b)), (4, .int (nI c0)), (5, .int (nI (a + i)))] := hl
  have hP : va_P G.1 vwCl [(z0, .inr (6, fs)), (z1, .inl (G.2 0, 404, .inl (nA (own M p a (a + i) c0))))] _ := hP
  have hD : va_D AA [(z0, .inr (6, fs)), (z1, .inl (G.2 0, 404, .inl (nA (own M p a (a + i) c0))))] := hD
  refine lv_iload hx hb dX6_gets_3 (lv_at hl 5 rfl) ?_
  refine lv_iload_n hx hb dX6_gets_5 rfl (lv_at hl 3 rfl) ?_
  refine br_ige (tgt := 29) hx hb dX6_gets_6 (by decide) (by omega) (by omega) (fun h3 => ?_) (fun h3 => ?_)
  · skip
    have e2 : a + i = b := (by omega)
    rw [e2] at hP hD
    exact wretv hx hb hr hlk hK hS (()) hP hD (trivial) dX6_gets_29
  · skip
    refine lv_aload_n hx hb dX6_gets_9 rfl (lv_at hl 0 rfl) ?_
    refine va_get (D := G.1) (ci := 6) (v := .ref z1) (C := RX6) (T := TX6) (N := 9) hx hb hts hF6 hown hK hP 0 rfl rfl 0 (by decide) (hts (.fieldLink RX6 7 "CousinSharesModel" "s" "[I") (List.mem_of_getElem? (i := 1) rfl)) (fun _ h9 => h9) hf0 dX6_gets_10 ?_
    refine lv_iload_n hx hb dX6_gets_13 rfl (lv_at hl 1 rfl) ?_
    refine nr_bi (v := 96) hx hb dX6_gets_14 (by decide +kernel) ?_
    refine nr_add hx hb dX6_gets_16 ?_
    refine lv_iload hx hb dX6_gets_17 (lv_at hl 5 rfl) ?_
    refine nr_add hx hb dX6_gets_19 ?_
    refine lv_iload hx hb dX6_gets_20 (lv_at hl 4 rfl) ?_
    refine nr_ast (ws' := [(z0, .inr (6, fs)), (z1, .inl (G.2 0, 404, .inl (nA (va_up (own M p a (a + i) c0) ((p + 96) + (a + i)) c0))))]) hx hb hK hP hD hS 1 rfl (by omega) (by decide) dX6_gets_22 rfl (fun H locs hP hD hS => ?_)
    refine nr_inc (d := 1) (v := (a + i) + 1) (lv' := [(5, .int (nI ((a + i) + 1))), (0, .ref z0), (1, .int (nI p)), (2, .int (nI a)), (3, .int (nI b)), (4, .int (nI c0))]) hx hb dX6_gets_23 hl (k := 5) rfl rfl (by decide) rfl (fun ls hl => ?_)
    refine lv_goto (tgt := 3) hx hb dX6_gets_26 (by decide) ?_
    rw [own_s] at hP hD
    exact ih1 (i + 1) ls H locs (lv_sub hl [1, 2, 3, 4, 5, 0] rfl) hP hD hS (by omega) (by omega))

set_option maxHeartbeats 4000000 in
set_option maxRecDepth 100000 in
theorem c_X6_trades (l : Launch) (G : gG) (z0 : Nat) (z1 : Nat) (fs : List Value) (M : Nat → Nat) (p : Nat) (c0 : Nat) (d : Nat) (hf0 : fs[0]? = some (.ref z1)) (hp : p ≤ 202) (hc : c0 < 8) (hd : d < 8) (hO : ∀ k, k < 24 → ow M p k < 8) (sz : Nat) : Met l yX6_trades wsX6_trades ({ frames := 0, cells := 0, slots := 0, locals := 0 } : Room) (WR G [(z0, .inr (6, fs)), (z1, .inl (G.2 0, 404, .inl (nA M)))] sz [.ref z0, .int (nI p), .int (nI c0), .int (nI d)]) (va_Qv (fun _ : Unit => True) (WB G (va_A [(z0, .inr (6, fs)), (z1, .inl (G.2 0, 404, .inl (nA M)))] sz) (fun _ : Unit => [(z0, .inr (6, fs)), (z1, .inl (G.2 0, 404, .inl (nA (trA M p c0 d 24))))])) (va_A [(z0, .inr (6, fs)), (z1, .inl (G.2 0, 404, .inl (nA M)))] sz)) 0 0 (va_A [(z0, .inr (6, fs)), (z1, .inl (G.2 0, 404, .inl (nA M)))] sz) := wrM (Qf := fun AA => va_Qv (fun _ : Unit => True) (WB G AA (fun _ : Unit => [(z0, .inr (6, fs)), (z1, .inl (G.2 0, 404, .inl (nA (trA M p c0 d 24))))])) AA) (C := RX6) rfl (by decide) rfl (Nat.le_of_ble_eq_true rfl) (fun pX eX sX mX bX meX cX ls AA hx hb hr hts hown hlk hml hin hP hK hD hAA hS hl => by
  have hl : lv_has ls 6 [(0, .ref z0), (1, .int (nI p)), (2, .int (nI c0)), (3, .int (nI d))] := hl
  have hF6 : ∀ w ∈ wsX60, w ∈ wsX6_trades := fun _ h => (List.mem_cons_of_mem _ (List.mem_append_right _ h))
  refine nr_const (v := 0) hx hb dX6_trades_0 rfl ?_
  refine lv_istore (lv' := [(4, .int (nI 0)), (0, .ref z0), (1, .int (nI p)), (2, .int (nI c0)), (3, .int (nI d))]) hx hb dX6_trades_1 hl (by decide) rfl (fun ls hl => ?_)
  rw [← trA_0 M p c0 d] at hP hD
  refine loop_w (T := Nat) (nL := 6) (fun i => i ≤ 24) (fun i => 24 - i) (fun i => [(0, .ref z0), (1, .int (nI p)), (2, .int (nI c0)), (3, .int (nI d)), (4, .int (nI i))]) (fun i => [(z0, .inr (6, fs)), (z1, .inl (G.2 0, 404, .inl (nA (trA M p c0 d i))))]) ?_ 0 (lv_sub hl [1, 2, 3, 4, 0] rfl) hP hD hS (by omega)
  intro i ls H locs hl hP hD hS hi2 ih1
  have hi2_0 := hi2
  have hi2_0 : i ≤ 24 := hi2_0
  have hl : lv_has ls 6 [(0, .ref z0), (1, .int (nI p)), (2, .int (nI c0)), (3, .int (nI d)), (4, .int (nI i))] := hl
  have hP : va_P G.1 vwCl [(z0, .inr (6, fs)), (z1, .inl (G.2 0, 404, .inl (nA (trA M p c0 d i))))] _ := hP
  have hD : va_D AA [(z0, .inr (6, fs)), (z1, .inl (G.2 0, 404, .inl (nA (trA M p c0 d i))))] := hD
  refine lv_iload hx hb dX6_trades_3 (lv_at hl 4 rfl) ?_
  refine nr_bi (v := 24) hx hb dX6_trades_5 (by decide +kernel) ?_
  refine br_ige (tgt := 64) hx hb dX6_trades_7 (by decide) (by omega) (by decide) (fun h3 => ?_) (fun h3 => ?_)
  · skip
    have e2 : i = 24 := (by omega)
    subst e2
    exact wretv hx hb hr hlk hK hS (()) hP hD (trivial) dX6_trades_64
  · skip
    have ho1 : trA M p c0 d i (p + 96 + i) = M (p + 96 + i) := trA_o
    have ho2 : M (p + 96 + i) < 8 := hO i (by omega)
    refine lv_aload_n hx hb dX6_trades_10 rfl (lv_at hl 0 rfl) ?_
    refine va_get (D := G.1) (ci := 6) (v := .ref z1) (C := RX6) (T := TX6) (N := 9) hx hb hts hF6 hown hK hP 0 rfl rfl 0 (by decide) (hts (.fieldLink RX6 7 "CousinSharesModel" "s" "[I") (List.mem_of_getElem? (i := 1) rfl)) (fun _ h9 => h9) hf0 dX6_trades_11 ?_
    refine lv_iload_n hx hb dX6_trades_14 rfl (lv_at hl 1 rfl) ?_
    refine nr_bi (v := 96) hx hb dX6_trades_15 (by decide +kernel) ?_
    refine nr_add hx hb dX6_trades_17 ?_
    refine lv_iload hx hb dX6_trades_18 (lv_at hl 4 rfl) ?_
    refine nr_add hx hb dX6_trades_20 ?_
    refine nr_ald hx hb hK hP 1 rfl (by omega) (by decide) dX6_trades_21 ?_
    refine lv_istore (lv' := [(5, .int (nI ((trA M p c0 d i) ((p + 96) + i)))), (0, .ref z0), (1, .int (nI p)), (2, .int (nI c0)), (3, .int (nI d)), (4, .int (nI i))]) hx hb dX6_trades_22 hl (by decide) rfl (fun ls hl => ?_)
    refine lv_aload_n hx hb dX6_trades_24 rfl (lv_at hl 1 rfl) ?_
    refine va_get (D := G.1) (ci := 6) (v := .ref z1) (C := RX6) (T := TX6) (N := 9) hx hb hts hF6 hown hK hP 0 rfl rfl 0 (by decide) (hts (.fieldLink RX6 7 "CousinSharesModel" "s" "[I") (List.mem_of_getElem? (i := 1) rfl)) (fun _ h9 => h9) hf0 dX6_trades_25 ?_
    refine lv_iload_n hx hb dX6_trades_28 rfl (lv_at hl 2 rfl) ?_
    refine nr_bi (v := 96) hx hb dX6_trades_29 (by decide +kernel) ?_
    refine nr_add hx hb dX6_trades_31 ?_
    refine lv_iload hx hb dX6_trades_32 (lv_at hl 5 rfl) ?_
    refine nr_add hx hb dX6_trades_34 ?_
    refine lv_iload hx hb dX6_trades_35 (lv_at hl 0 rfl) ?_
    refine lv_iload_n hx hb dX6_trades_37 rfl (lv_at hl 3 rfl) ?_
    refine join_v (T := Nat) (J := 57) (nL := 6) (fun v => [(5, .int (nI ((trA M p c0 d i) ((p + 96) + i)))), (0, .ref z0), (1, .int (nI p)), (2, .int (nI c0)), (3, .int (nI d)), (4, .int (nI i))]) (fun v => [.int (nI v), .int (nI ((p + 96) + i)), .ref z1]) (fun v => v = (if ((trA M p c0 d i) ((p + 96) + i)) = c0 then d else (if ((trA M p c0 d i) ((p + 96) + i)) = d then c0 else ((trA M p c0 d i) ((p + 96) + i))))) ?_ (fun jj4 => ?_)
    · intro v ls hl hv5
      subst hv5
      refine nr_ast (ws' := [(z0, .inr (6, fs)), (z1, .inl (G.2 0, 404, .inl (nA (va_up (trA M p c0 d i) ((p + 96) + i) (if ((trA M p c0 d i) ((p + 96) + i)) = c0 then d else (if ((trA M p c0 d i) ((p + 96) + i)) = d then c0 else ((trA M p c0 d i) ((p + 96) + i))))))))]) hx hb hK hP hD hS 1 rfl (by omega) (by decide) dX6_trades_57 rfl (fun H locs hP hD hS => ?_)
      refine nr_inc (d := 1) (v := i + 1) (lv' := [(4, .int (nI (i + 1))), (5, .int (nI ((trA M p c0 d i) ((p + 96) + i)))), (0, .ref z0), (1, .int (nI p)), (2, .int (nI c0)), (3, .int (nI d))]) hx hb dX6_trades_58 hl (k := 5) rfl rfl (by decide) rfl (fun ls hl => ?_)
      refine lv_goto (tgt := 3) hx hb dX6_trades_61 (by decide) ?_
      rw [show va_up (trA M p c0 d i) (p + 96 + i) (if trA M p c0 d i (p + 96 + i) = c0 then d else (if trA M p c0 d i (p + 96 + i) = d then c0 else trA M p c0 d i (p + 96 + i))) = trA M p c0 d (i + 1) from by rw [ho1]; exact trA_s M p c0 d i] at hP hD
      exact ih1 (i + 1) ls H locs (lv_sub hl [2, 3, 4, 5, 0] rfl) hP hD hS (by omega) (by omega)
    · skip
      refine br_ine (tgt := 45) hx hb dX6_trades_38 (by decide) (by omega) (by omega) (fun h6 => ?_) (fun h6 => ?_)
      · skip
        refine lv_iload hx hb dX6_trades_45 (lv_at hl 0 rfl) ?_
        refine lv_iload_n hx hb dX6_trades_47 rfl (lv_at hl 4 rfl) ?_
        refine br_ine (tgt := 55) hx hb dX6_trades_48 (by decide) (by omega) (by omega) (fun h7 => ?_) (fun h7 => ?_)
        · skip
          refine lv_iload hx hb dX6_trades_55 (lv_at hl 0 rfl) ?_
          exact jj4 ((trA M p c0 d i) ((p + 96) + i)) ls (lv_sub hl [0, 1, 2, 3, 4, 5] rfl) (by simp only [if_neg h6, if_neg h7])
        · skip
          refine lv_iload_n hx hb dX6_trades_51 rfl (lv_at hl 3 rfl) ?_
          refine lv_goto (tgt := 57) hx hb dX6_trades_52 (by decide) ?_
          exact jj4 c0 ls (lv_sub hl [0, 1, 2, 3, 4, 5] rfl) (by simp only [if_neg h6, if_pos h7])
      · skip
        refine lv_iload_n hx hb dX6_trades_41 rfl (lv_at hl 4 rfl) ?_
        refine lv_goto (tgt := 57) hx hb dX6_trades_42 (by decide) ?_
        exact jj4 d ls (lv_sub hl [0, 1, 2, 3, 4, 5] rfl) (by simp only [if_pos h6]))
