set_option maxHeartbeats 4000000 in
set_option maxRecDepth 100000 in
theorem c_X4_measure (l : Launch) (G : gG) (s0 : Nat) (bf : Nat) (bs : Nat) (bm : Nat) (w0 : Nat) (s1 : Nat) (SW : Nat → Nat) (w3 : Nat) (w5 : Nat) (w6 : Nat) (fs : List Value) (M : Nat → Nat) (O : Nat → Nat) (q0 : Nat) (hf2 : fs[2]? = some (.ref w3)) (hf4 : fs[4]? = some (.ref w5)) (hf5 : fs[5]? = some (.ref w6)) (hO : ∀ k, k < 24 → O k < 8) (sz : Nat) : Met l yX4_measure wsX4_measure ({ frames := 1, cells := 0, slots := 0, locals := 22 } : Room) (WRn G [(s0, .inr (4, [.int (nI bf), .int (nI bs), .int (nI bm), .ref w0, .ref s1])), (s1, .inl (G.2 0, 49, .inl (nA SW))), (w0, .inr (1, fs)), (w3, .inl (G.2 0, 49, .inl (nA (cut 49 148 M)))), (w5, .inl (G.2 0, 2, .inl (nA (cut 2 197 M)))), (w6, .inl (G.2 0, 168, .inl (nA (vv M)))), (q0, .inl (G.2 0, 24, .inl (nA O)))] sz [.ref s0, .ref q0]) (va_Qv (fun _ : Unit => True) (WB G (va_A [(s0, .inr (4, [.int (nI bf), .int (nI bs), .int (nI bm), .ref w0, .ref s1])), (s1, .inl (G.2 0, 49, .inl (nA SW))), (w0, .inr (1, fs)), (w3, .inl (G.2 0, 49, .inl (nA (cut 49 148 M)))), (w5, .inl (G.2 0, 2, .inl (nA (cut 2 197 M)))), (w6, .inl (G.2 0, 168, .inl (nA (vv M)))), (q0, .inl (G.2 0, 24, .inl (nA O)))] sz) (fun _ : Unit => [(s0, .inr (4, [.int (nI bf), .int (nI bs), .int (nI bm), .ref w0, .ref s1])), (s1, .inl (G.2 0, 49, .inl (nA (swF SW M O 24)))), (w0, .inr (1, fs)), (w3, .inl (G.2 0, 49, .inl (nA (cut 49 148 M)))), (w5, .inl (G.2 0, 2, .inl (nA (cut 2 197 M)))), (w6, .inl (G.2 0, 168, .inl (nA (vv M)))), (q0, .inl (G.2 0, 24, .inl (nA O)))])) (va_A [(s0, .inr (4, [.int (nI bf), .int (nI bs), .int (nI bm), .ref w0, .ref s1])), (s1, .inl (G.2 0, 49, .inl (nA SW))), (w0, .inr (1, fs)), (w3, .inl (G.2 0, 49, .inl (nA (cut 49 148 M)))), (w5, .inl (G.2 0, 2, .inl (nA (cut 2 197 M)))), (w6, .inl (G.2 0, 168, .inl (nA (vv M)))), (q0, .inl (G.2 0, 24, .inl (nA O)))] sz)) 0 0 (va_A [(s0, .inr (4, [.int (nI bf), .int (nI bs), .int (nI bm), .ref w0, .ref s1])), (s1, .inl (G.2 0, 49, .inl (nA SW))), (w0, .inr (1, fs)), (w3, .inl (G.2 0, 49, .inl (nA (cut 49 148 M)))), (w5, .inl (G.2 0, 2, .inl (nA (cut 2 197 M)))), (w6, .inl (G.2 0, 168, .inl (nA (vv M)))), (q0, .inl (G.2 0, 24, .inl (nA O)))] sz) := wrMn (Qf := fun AA => va_Qv (fun _ : Unit => True) (WB G AA (fun _ : Unit => [(s0, .inr (4, [.int (nI bf), .int (nI bs), .int (nI bm), .ref w0, .ref s1])), (s1, .inl (G.2 0, 49, .inl (nA (swF SW M O 24)))), (w0, .inr (1, fs)), (w3, .inl (G.2 0, 49, .inl (nA (cut 49 148 M)))), (w5, .inl (G.2 0, 2, .inl (nA (cut 2 197 M)))), (w6, .inl (G.2 0, 168, .inl (nA (vv M)))), (q0, .inl (G.2 0, 24, .inl (nA O)))])) AA) (C := RX4) rfl (by decide) rfl (Nat.le_of_ble_eq_true rfl) (fun pX eX sX mX bX meX cX ls AA hx hb hr hts hown hlk hml hin hP hK hNW hD hAA hS hl => by
  have hl : lv_has ls 5 [(0, .ref s0), (1, .ref q0)] := hl
  have hF4 : ∀ w ∈ wsX40, w ∈ wsX4_measure := fun _ h => (List.mem_cons_of_mem _ (List.mem_append_left _ (List.mem_append_right _ h)))
  refine nr_const (v := 0) hx hb dX4_measure_0 rfl ?_
  refine lv_istore_n (lv' := [(2, .int (nI 0)), (0, .ref s0), (1, .ref q0)]) hx hb dX4_measure_1 rfl hl (by decide) rfl (fun ls hl => ?_)
  rw [← zf_0 SW] at hP hD
  refine loop_w (T := Nat) (nL := 5) (fun i => i ≤ 49) (fun i => 49 - i) (fun i => [(0, .ref s0), (1, .ref q0), (2, .int (nI i))]) (fun i => [(s0, .inr (4, [.int (nI bf), .int (nI bs), .int (nI bm), .ref w0, .ref s1])), (s1, .inl (G.2 0, 49, .inl (nA (zf SW i)))), (w0, .inr (1, fs)), (w3, .inl (G.2 0, 49, .inl (nA (cut 49 148 M)))), (w5, .inl (G.2 0, 2, .inl (nA (cut 2 197 M)))), (w6, .inl (G.2 0, 168, .inl (nA (vv M)))), (q0, .inl (G.2 0, 24, .inl (nA O)))]) ?_ 0 (lv_sub hl [1, 2, 0] rfl) hP hD hS (by omega)
  intro i ls H locs hl hP hD hS hi2 ih1
  have hi2_0 := hi2
  have hi2_0 : i ≤ 49 := hi2_0
  have hl : lv_has ls 5 [(0, .ref s0), (1, .ref q0), (2, .int (nI i))] := hl
  have hP : va_P G.1 vwCl [(s0, .inr (4, [.int (nI bf), .int (nI bs), .int (nI bm), .ref w0, .ref s1])), (s1, .inl (G.2 0, 49, .inl (nA (zf SW i)))), (w0, .inr (1, fs)), (w3, .inl (G.2 0, 49, .inl (nA (cut 49 148 M)))), (w5, .inl (G.2 0, 2, .inl (nA (cut 2 197 M)))), (w6, .inl (G.2 0, 168, .inl (nA (vv M)))), (q0, .inl (G.2 0, 24, .inl (nA O)))] _ := hP
  have hD : va_D AA [(s0, .inr (4, [.int (nI bf), .int (nI bs), .int (nI bm), .ref w0, .ref s1])), (s1, .inl (G.2 0, 49, .inl (nA (zf SW i)))), (w0, .inr (1, fs)), (w3, .inl (G.2 0, 49, .inl (nA (cut 49 148 M)))), (w5, .inl (G.2 0, 2, .inl (nA (cut 2 197 M)))), (w6, .inl (G.2 0, 168, .inl (nA (vv M)))), (q0, .inl (G.2 0, 24, .inl (nA O)))] := hD
  refine lv_iload_n hx hb dX4_measure_2 rfl (lv_at hl 2 rfl) ?_
  refine nr_bi (v := 49) hx hb dX4_measure_3 (by decide +kernel) ?_
  refine br_ige (tgt := 21) hx hb dX4_measure_5 (by decide) (by omega) (by decide) (fun h3 => ?_) (fun h3 => ?_)
  · skip
    have e49 : i = 49 := (by omega)
    rw [e49] at hP hD
    have hP : va_P G.1 vwCl [(s0, .inr (4, [.int (nI bf), .int (nI bs), .int (nI bm), .ref w0, .ref s1])), (s1, .inl (G.2 0, 49, .inl (nA (zf SW 49)))), (w0, .inr (1, fs)), (w3, .inl (G.2 0, 49, .inl (nA (cut 49 148 M)))), (w5, .inl (G.2 0, 2, .inl (nA (cut 2 197 M)))), (w6, .inl (G.2 0, 168, .inl (nA (vv M)))), (q0, .inl (G.2 0, 24, .inl (nA O)))] _ := hP
    have hD : va_D AA [(s0, .inr (4, [.int (nI bf), .int (nI bs), .int (nI bm), .ref w0, .ref s1])), (s1, .inl (G.2 0, 49, .inl (nA (zf SW 49)))), (w0, .inr (1, fs)), (w3, .inl (G.2 0, 49, .inl (nA (cut 49 148 M)))), (w5, .inl (G.2 0, 2, .inl (nA (cut 2 197 M)))), (w6, .inl (G.2 0, 168, .inl (nA (vv M)))), (q0, .inl (G.2 0, 24, .inl (nA O)))] := hD
    refine nr_const (v := 0) hx hb dX4_measure_21 rfl ?_
    refine lv_istore_n (lv' := [(2, .int (nI 0)), (0, .ref s0), (1, .ref q0)]) hx hb dX4_measure_22 rfl hl (by decide) rfl (fun ls hl => ?_)
    rw [swF_0 SW M O] at hP hD
    refine loop_w (T := Nat) (nL := 5) (fun n => n ≤ 24) (fun n => 24 - n) (fun n => [(0, .ref s0), (1, .ref q0), (2, .int (nI n))]) (fun n => [(s0, .inr (4, [.int (nI bf), .int (nI bs), .int (nI bm), .ref w0, .ref s1])), (s1, .inl (G.2 0, 49, .inl (nA (swF SW M O n)))), (w0, .inr (1, fs)), (w3, .inl (G.2 0, 49, .inl (nA (cut 49 148 M)))), (w5, .inl (G.2 0, 2, .inl (nA (cut 2 197 M)))), (w6, .inl (G.2 0, 168, .inl (nA (vv M)))), (q0, .inl (G.2 0, 24, .inl (nA O)))]) ?_ 0 (lv_sub hl [1, 2, 0] rfl) hP hD hS (by omega)
    intro n ls H locs hl hP hD hS hi5 ih4
    have hi5_0 := hi5
    have hi5_0 : n ≤ 24 := hi5_0
    have hl : lv_has ls 5 [(0, .ref s0), (1, .ref q0), (2, .int (nI n))] := hl
    have hP : va_P G.1 vwCl [(s0, .inr (4, [.int (nI bf), .int (nI bs), .int (nI bm), .ref w0, .ref s1])), (s1, .inl (G.2 0, 49, .inl (nA (swF SW M O n)))), (w0, .inr (1, fs)), (w3, .inl (G.2 0, 49, .inl (nA (cut 49 148 M)))), (w5, .inl (G.2 0, 2, .inl (nA (cut 2 197 M)))), (w6, .inl (G.2 0, 168, .inl (nA (vv M)))), (q0, .inl (G.2 0, 24, .inl (nA O)))] _ := hP
    have hD : va_D AA [(s0, .inr (4, [.int (nI bf), .int (nI bs), .int (nI bm), .ref w0, .ref s1])), (s1, .inl (G.2 0, 49, .inl (nA (swF SW M O n)))), (w0, .inr (1, fs)), (w3, .inl (G.2 0, 49, .inl (nA (cut 49 148 M)))), (w5, .inl (G.2 0, 2, .inl (nA (cut 2 197 M)))), (w6, .inl (G.2 0, 168, .inl (nA (vv M)))), (q0, .inl (G.2 0, 24, .inl (nA O)))] := hD
    refine lv_iload_n hx hb dX4_measure_23 rfl (lv_at hl 2 rfl) ?_
    refine nr_bi (v := 24) hx hb dX4_measure_24 (by decide +kernel) ?_
    refine br_ige (tgt := 87) hx hb dX4_measure_26 (by decide) (by omega) (by decide) (fun h6 => ?_) (fun h6 => ?_)
    · skip
      have e2 : n = 24 := (by omega)
      subst e2
      exact wretv hx hb hr hlk hK hS (()) hP hD (trivial) dX4_measure_87
    · skip
      refine lv_aload_n hx hb dX4_measure_29 rfl (lv_at hl 1 rfl) ?_
      refine lv_iload_n hx hb dX4_measure_30 rfl (lv_at hl 2 rfl) ?_
      refine nr_ald hx hb hK hP 6 rfl (by omega) (by decide) dX4_measure_31 ?_
      refine lv_istore_n (lv' := [(3, .int (nI (O n))), (0, .ref s0), (1, .ref q0), (2, .int (nI n))]) hx hb dX4_measure_32 rfl hl (by decide) rfl (fun ls hl => ?_)
      refine lv_iload_n hx hb dX4_measure_33 rfl (lv_at hl 0 rfl) ?_
      refine rcN (As := [.int (nI (O n))]) ⟨hx, hb, hml, hown, hts⟩ (c_X5_isCousin l (nI (O n))) ⟨va_cnB 1 hts gX4_measure_X5_isCousin_n19 rfl rfl rfl hNW.2.2.1 (hts (.initialized RX5) (List.mem_of_getElem? (i := 4) rfl)) (by decide +kernel) ⟨Nat.le_of_ble_eq_true rfl, Nat.le_of_ble_eq_true rfl⟩, (hts (.static yX5_isCousin) (List.mem_of_getElem? (i := 3) rfl)), trivial⟩ rfl hl.1 rfl (Nat.le_of_ble_eq_true rfl) dX4_measure_34 ⟨Nat.zero_le _, Nat.zero_le _⟩ ?_
      refine nr_top (y := nI (bb (O n < 7))) (congrArg nI (bb_c ((rg_n (by have := hO n (by omega); omega) (by decide)).trans Nat.lt_succ_iff.symm))) ?_
      refine br_eqb (tgt := 81) hx hb dX4_measure_37 (by decide) (fun h7 => ?_) (fun h7 => ?_)
      · skip
        rw [swF_n SW M O (by assumption)] at hP hD
        have hP : va_P G.1 vwCl [(s0, .inr (4, [.int (nI bf), .int (nI bs), .int (nI bm), .ref w0, .ref s1])), (s1, .inl (G.2 0, 49, .inl (nA (swF SW M O (n + 1))))), (w0, .inr (1, fs)), (w3, .inl (G.2 0, 49, .inl (nA (cut 49 148 M)))), (w5, .inl (G.2 0, 2, .inl (nA (cut 2 197 M)))), (w6, .inl (G.2 0, 168, .inl (nA (vv M)))), (q0, .inl (G.2 0, 24, .inl (nA O)))] _ := hP
        have hD : va_D AA [(s0, .inr (4, [.int (nI bf), .int (nI bs), .int (nI bm), .ref w0, .ref s1])), (s1, .inl (G.2 0, 49, .inl (nA (swF SW M O (n + 1))))), (w0, .inr (1, fs)), (w3, .inl (G.2 0, 49, .inl (nA (cut 49 148 M)))), (w5, .inl (G.2 0, 2, .inl (nA (cut 2 197 M)))), (w6, .inl (G.2 0, 168, .inl (nA (vv M)))), (q0, .inl (G.2 0, 24, .inl (nA O)))] := hD
        refine nr_inc (d := 1) (v := n + 1) (lv' := [(2, .int (nI (n + 1))), (3, .int (nI (O n))), (0, .ref s0), (1, .ref q0)]) hx hb dX4_measure_81 hl (k := 3) rfl rfl (by decide) rfl (fun ls hl => ?_)
        refine lv_goto (tgt := 23) hx hb dX4_measure_84 (by decide) ?_
        exact ih4 (n + 1) ls H locs (lv_sub hl [2, 3, 0] rfl) hP hD hS (by omega) (by omega)
      · skip
        refine nr_const (v := 0) hx hb dX4_measure_40 rfl ?_
        refine lv_istore (lv' := [(4, .int (nI 0)), (3, .int (nI (O n))), (0, .ref s0), (1, .ref q0), (2, .int (nI n))]) hx hb dX4_measure_41 hl (by decide) rfl (fun ls hl => ?_)
        rw [← sxF_0 SW M O n] at hP hD
        refine loop_w (T := Nat) (nL := 5) (fun i => i ≤ 7) (fun i => 7 - i) (fun i => [(0, .ref s0), (1, .ref q0), (2, .int (nI n)), (3, .int (nI (O n))), (4, .int (nI i))]) (fun i => [(s0, .inr (4, [.int (nI bf), .int (nI bs), .int (nI bm), .ref w0, .ref s1])), (s1, .inl (G.2 0, 49, .inl (nA (sxF SW M O n i)))), (w0, .inr (1, fs)), (w3, .inl (G.2 0, 49, .inl (nA (cut 49 148 M)))), (w5, .inl (G.2 0, 2, .inl (nA (cut 2 197 M)))), (w6, .inl (G.2 0, 168, .inl (nA (vv M)))), (q0, .inl (G.2 0, 24, .inl (nA O)))]) ?_ 0 (lv_sub hl [2, 3, 4, 1, 0] rfl) hP hD hS (by omega)
        intro i ls H locs hl hP hD hS hi9 ih8
        have hi9_0 := hi9
        have hi9_0 : i ≤ 7 := hi9_0
        have hl : lv_has ls 5 [(0, .ref s0), (1, .ref q0), (2, .int (nI n)), (3, .int (nI (O n))), (4, .int (nI i))] := hl
        have hP : va_P G.1 vwCl [(s0, .inr (4, [.int (nI bf), .int (nI bs), .int (nI bm), .ref w0, .ref s1])), (s1, .inl (G.2 0, 49, .inl (nA (sxF SW M O n i)))), (w0, .inr (1, fs)), (w3, .inl (G.2 0, 49, .inl (nA (cut 49 148 M)))), (w5, .inl (G.2 0, 2, .inl (nA (cut 2 197 M)))), (w6, .inl (G.2 0, 168, .inl (nA (vv M)))), (q0, .inl (G.2 0, 24, .inl (nA O)))] _ := hP
        have hD : va_D AA [(s0, .inr (4, [.int (nI bf), .int (nI bs), .int (nI bm), .ref w0, .ref s1])), (s1, .inl (G.2 0, 49, .inl (nA (sxF SW M O n i)))), (w0, .inr (1, fs)), (w3, .inl (G.2 0, 49, .inl (nA (cut 49 148 M)))), (w5, .inl (G.2 0, 2, .inl (nA (cut 2 197 M)))), (w6, .inl (G.2 0, 168, .inl (nA (vv M)))), (q0, .inl (G.2 0, 24, .inl (nA O)))] := hD
        refine lv_iload hx hb dX4_measure_43 (lv_at hl 4 rfl) ?_
        refine nr_bi (v := 7) hx hb dX4_measure_45 (by decide +kernel) ?_
        refine br_ige (tgt := 81) hx hb dX4_measure_47 (by decide) (by omega) (by decide) (fun h10 => ?_) (fun h10 => ?_)
        · skip
          have e7 : i = 7 := (by omega)
          rw [e7, sxF_7] at hP hD
          have hP : va_P G.1 vwCl [(s0, .inr (4, [.int (nI bf), .int (nI bs), .int (nI bm), .ref w0, .ref s1])), (s1, .inl (G.2 0, 49, .inl (nA (swF SW M O (n + 1))))), (w0, .inr (1, fs)), (w3, .inl (G.2 0, 49, .inl (nA (cut 49 148 M)))), (w5, .inl (G.2 0, 2, .inl (nA (cut 2 197 M)))), (w6, .inl (G.2 0, 168, .inl (nA (vv M)))), (q0, .inl (G.2 0, 24, .inl (nA O)))] _ := hP
          have hD : va_D AA [(s0, .inr (4, [.int (nI bf), .int (nI bs), .int (nI bm), .ref w0, .ref s1])), (s1, .inl (G.2 0, 49, .inl (nA (swF SW M O (n + 1))))), (w0, .inr (1, fs)), (w3, .inl (G.2 0, 49, .inl (nA (cut 49 148 M)))), (w5, .inl (G.2 0, 2, .inl (nA (cut 2 197 M)))), (w6, .inl (G.2 0, 168, .inl (nA (vv M)))), (q0, .inl (G.2 0, 24, .inl (nA O)))] := hD
          refine nr_inc (d := 1) (v := n + 1) (lv' := [(2, .int (nI (n + 1))), (0, .ref s0), (1, .ref q0), (3, .int (nI (O n))), (4, .int (nI i))]) hx hb dX4_measure_81 hl (k := 2) rfl rfl (by decide) rfl (fun ls hl => ?_)
          refine lv_goto (tgt := 23) hx hb dX4_measure_84 (by decide) ?_
          exact ih4 (n + 1) ls H locs (lv_sub hl [1, 2, 0] rfl) hP hD hS (by omega) (by omega)
        · skip
          refine lv_aload_n hx hb dX4_measure_50 rfl (lv_at hl 0 rfl) ?_
          refine va_get (D := G.1) (ci := 4) (v := .ref s1) (C := RX4) (T := TX4) (N := 5) hx hb hts hF4 hown hK hP 0 rfl rfl 4 (by decide) (hts (.fieldLink RX4 9 "CousinShares$Shares" "worths" "[I") (List.mem_of_getElem? (i := 1) rfl)) (fun _ h9 => h9) rfl dX4_measure_51 ?_
          refine lv_iload hx hb dX4_measure_54 (lv_at hl 4 rfl) ?_
          refine nr_bi (v := 7) hx hb dX4_measure_56 (by decide +kernel) ?_
          refine nr_mul hx hb dX4_measure_58 ?_
          refine lv_iload_n hx hb dX4_measure_59 rfl (lv_at hl 3 rfl) ?_
          refine nr_add hx hb dX4_measure_60 ?_
          refine lv_dup2_11 hx hb dX4_measure_61 rfl rfl ?_
          refine nr_ald hx hb hK hP 1 rfl (by omega) (by decide) dX4_measure_62 ?_
          refine lv_aload_n hx hb dX4_measure_63 rfl (lv_at hl 0 rfl) ?_
          refine va_get (D := G.1) (ci := 4) (v := .ref w0) (C := RX4) (T := TX4) (N := 5) hx hb hts hF4 hown hK hP 0 rfl rfl 3 (by decide) (hts (.fieldLink RX4 15 "CousinShares$Shares" "harvest" "LCousinShares$Harvest;") (List.mem_of_getElem? (i := 2) rfl)) (fun _ h9 => h9) rfl dX4_measure_64 ?_
          refine lv_iload_n hx hb dX4_measure_67 rfl (lv_at hl 2 rfl) ?_
          refine lv_iload hx hb dX4_measure_68 (lv_at hl 4 rfl) ?_
          refine rcV (As := [.int (nI n), .int (nI i)]) (wl := [(w0, .inr (1, fs)), (w6, .inl (G.2 0, 168, .inl (nA (vv M))))]) ⟨hx, hb, hml, hown, hts⟩ (c_X1_worthOf l G w0 w6 fs M n i hf5 (by omega) (by omega)) (cwV 2 hts gX4_measure_X1_worthOf rfl rfl rfl (by decide +kernel) ⟨Nat.le_of_ble_eq_true rfl, Nat.le_of_ble_eq_true rfl⟩) hK (hP.sub [2, 5] rfl) 1 0 rfl rfl rfl hl.1 rfl (Nat.le_of_ble_eq_true rfl) dX4_measure_70 ⟨Nat.zero_le _, Nat.zero_le _⟩ ?_
          refine nr_add hx hb dX4_measure_73 ?_
          refine nr_ast (ws' := [(s0, .inr (4, [.int (nI bf), .int (nI bs), .int (nI bm), .ref w0, .ref s1])), (s1, .inl (G.2 0, 49, .inl (nA (va_up (sxF SW M O n i) ((i * 7) + (O n)) (((sxF SW M O n i) ((i * 7) + (O n))) + (wr M i n)))))), (w0, .inr (1, fs)), (w3, .inl (G.2 0, 49, .inl (nA (cut 49 148 M)))), (w5, .inl (G.2 0, 2, .inl (nA (cut 2 197 M)))), (w6, .inl (G.2 0, 168, .inl (nA (vv M)))), (q0, .inl (G.2 0, 24, .inl (nA O)))]) hx hb hK hP hD hS 1 rfl (by omega) (by decide) dX4_measure_74 rfl (fun H locs hP hD hS => ?_)
          refine nr_inc (d := 1) (v := i + 1) (lv' := [(4, .int (nI (i + 1))), (0, .ref s0), (1, .ref q0), (2, .int (nI n)), (3, .int (nI (O n)))]) hx hb dX4_measure_75 hl (k := 4) rfl rfl (by decide) rfl (fun ls hl => ?_)
          refine lv_goto (tgt := 43) hx hb dX4_measure_78 (by decide) ?_
          rw [sxF_s SW M O (by omega) (by assumption)] at hP hD
          exact ih8 (i + 1) ls H locs (lv_sub hl [1, 2, 3, 4, 0] rfl) hP hD hS (by omega) (by omega)
  · skip
    refine lv_aload_n hx hb dX4_measure_8 rfl (lv_at hl 0 rfl) ?_
    refine va_get (D := G.1) (ci := 4) (v := .ref s1) (C := RX4) (T := TX4) (N := 5) hx hb hts hF4 hown hK hP 0 rfl rfl 4 (by decide) (hts (.fieldLink RX4 9 "CousinShares$Shares" "worths" "[I") (List.mem_of_getElem? (i := 1) rfl)) (fun _ h9 => h9) rfl dX4_measure_9 ?_
    refine lv_iload_n hx hb dX4_measure_12 rfl (lv_at hl 2 rfl) ?_
    refine nr_const (v := 0) hx hb dX4_measure_13 rfl ?_
    refine nr_ast (ws' := [(s0, .inr (4, [.int (nI bf), .int (nI bs), .int (nI bm), .ref w0, .ref s1])), (s1, .inl (G.2 0, 49, .inl (nA (va_up (zf SW i) i 0)))), (w0, .inr (1, fs)), (w3, .inl (G.2 0, 49, .inl (nA (cut 49 148 M)))), (w5, .inl (G.2 0, 2, .inl (nA (cut 2 197 M)))), (w6, .inl (G.2 0, 168, .inl (nA (vv M)))), (q0, .inl (G.2 0, 24, .inl (nA O)))]) hx hb hK hP hD hS 1 rfl (by omega) (by decide) dX4_measure_14 rfl (fun H locs hP hD hS => ?_)
    refine nr_inc (d := 1) (v := i + 1) (lv' := [(2, .int (nI (i + 1))), (0, .ref s0), (1, .ref q0)]) hx hb dX4_measure_15 hl (k := 2) rfl rfl (by decide) rfl (fun ls hl => ?_)
    refine lv_goto (tgt := 2) hx hb dX4_measure_18 (by decide) ?_
    rw [zf_s] at hP hD
    exact ih1 (i + 1) ls H locs (lv_sub hl [1, 2, 0] rfl) hP hD hS (by omega) (by omega))

set_option maxHeartbeats 4000000 in
set_option maxRecDepth 100000 in
theorem c_X4_exchange (l : Launch) (G : gG) (s0 : Nat) (bf : Nat) (bs : Nat) (bm : Nat) (w0 : Nat) (s1 : Nat) (SW : Nat → Nat) (w3 : Nat) (w5 : Nat) (w6 : Nat) (fs : List Value) (M : Nat → Nat) (a : Nat) (b : Nat) (hf2 : fs[2]? = some (.ref w3)) (hf4 : fs[4]? = some (.ref w5)) (hf5 : fs[5]? = some (.ref w6)) (ha : a < 7) (hb7 : b < 7) (sz : Nat) : Met l yX4_exchange wsX4_exchange ({ frames := 0, cells := 0, slots := 0, locals := 0 } : Room) (WRn G [(s0, .inr (4, [.int (nI bf), .int (nI bs), .int (nI bm), .ref w0, .ref s1])), (s1, .inl (G.2 0, 49, .inl (nA SW))), (w0, .inr (1, fs)), (w3, .inl (G.2 0, 49, .inl (nA (cut 49 148 M)))), (w5, .inl (G.2 0, 2, .inl (nA (cut 2 197 M)))), (w6, .inl (G.2 0, 168, .inl (nA (vv M))))] sz [.ref s0, .int (nI a), .int (nI b)]) (va_Qv (fun _ : Unit => True) (WB G (va_A [(s0, .inr (4, [.int (nI bf), .int (nI bs), .int (nI bm), .ref w0, .ref s1])), (s1, .inl (G.2 0, 49, .inl (nA SW))), (w0, .inr (1, fs)), (w3, .inl (G.2 0, 49, .inl (nA (cut 49 148 M)))), (w5, .inl (G.2 0, 2, .inl (nA (cut 2 197 M)))), (w6, .inl (G.2 0, 168, .inl (nA (vv M))))] sz) (fun _ : Unit => [(s0, .inr (4, [.int (nI bf), .int (nI bs), .int (nI bm), .ref w0, .ref s1])), (s1, .inl (G.2 0, 49, .inl (nA (xW SW a b 7)))), (w0, .inr (1, fs)), (w3, .inl (G.2 0, 49, .inl (nA (cut 49 148 M)))), (w5, .inl (G.2 0, 2, .inl (nA (cut 2 197 M)))), (w6, .inl (G.2 0, 168, .inl (nA (vv M))))])) (va_A [(s0, .inr (4, [.int (nI bf), .int (nI bs), .int (nI bm), .ref w0, .ref s1])), (s1, .inl (G.2 0, 49, .inl (nA SW))), (w0, .inr (1, fs)), (w3, .inl (G.2 0, 49, .inl (nA (cut 49 148 M)))), (w5, .inl (G.2 0, 2, .inl (nA (cut 2 197 M)))), (w6, .inl (G.2 0, 168, .inl (nA (vv M))))] sz)) 0 0 (va_A [(s0, .inr (4, [.int (nI bf), .int (nI bs), .int (nI bm), .ref w0, .ref s1])), (s1, .inl (G.2 0, 49, .inl (nA SW))), (w0, .inr (1, fs)), (w3, .inl (G.2 0, 49, .inl (nA (cut 49 148 M)))), (w5, .inl (G.2 0, 2, .inl (nA (cut 2 197 M)))), (w6, .inl (G.2 0, 168, .inl (nA (vv M))))] sz) := wrMn (Qf := fun AA => va_Qv (fun _ : Unit => True) (WB G AA (fun _ : Unit => [(s0, .inr (4, [.int (nI bf), .int (nI bs), .int (nI bm), .ref w0, .ref s1])), (s1, .inl (G.2 0, 49, .inl (nA (xW SW a b 7)))), (w0, .inr (1, fs)), (w3, .inl (G.2 0, 49, .inl (nA (cut 49 148 M)))), (w5, .inl (G.2 0, 2, .inl (nA (cut 2 197 M)))), (w6, .inl (G.2 0, 168, .inl (nA (vv M))))])) AA) (C := RX4) rfl (by decide) rfl (Nat.le_of_ble_eq_true rfl) (fun pX eX sX mX bX meX cX ls AA hx hb hr hts hown hlk hml hin hP hK hNW hD hAA hS hl => by
  have hl : lv_has ls 5 [(0, .ref s0), (1, .int (nI a)), (2, .int (nI b))] := hl
  have hF4 : ∀ w ∈ wsX40, w ∈ wsX4_exchange := fun _ h => (List.mem_cons_of_mem _ (List.mem_append_right _ h))
  refine nr_const (v := 0) hx hb dX4_exchange_0 rfl ?_
  refine lv_istore_n (lv' := [(3, .int (nI 0)), (0, .ref s0), (1, .int (nI a)), (2, .int (nI b))]) hx hb dX4_exchange_1 rfl hl (by decide) rfl (fun ls hl => ?_)
  rw [← xW_0 SW a b] at hP hD
  refine loop_w (T := Nat) (nL := 5) (fun n => n ≤ 7) (fun n => 7 - n) (fun n => [(0, .ref s0), (1, .int (nI a)), (2, .int (nI b)), (3, .int (nI (7 * n)))]) (fun n => [(s0, .inr (4, [.int (nI bf), .int (nI bs), .int (nI bm), .ref w0, .ref s1])), (s1, .inl (G.2 0, 49, .inl (nA (xW SW a b n)))), (w0, .inr (1, fs)), (w3, .inl (G.2 0, 49, .inl (nA (cut 49 148 M)))), (w5, .inl (G.2 0, 2, .inl (nA (cut 2 197 M)))), (w6, .inl (G.2 0, 168, .inl (nA (vv M))))]) ?_ 0 (lv_sub hl [1, 2, 3, 0] rfl) hP hD hS (by omega)
  intro n ls H locs hl hP hD hS hi2 ih1
  have hi2_0 := hi2
  have hi2_0 : n ≤ 7 := hi2_0
  have hl : lv_has ls 5 [(0, .ref s0), (1, .int (nI a)), (2, .int (nI b)), (3, .int (nI (7 * n)))] := hl
  have hP : va_P G.1 vwCl [(s0, .inr (4, [.int (nI bf), .int (nI bs), .int (nI bm), .ref w0, .ref s1])), (s1, .inl (G.2 0, 49, .inl (nA (xW SW a b n)))), (w0, .inr (1, fs)), (w3, .inl (G.2 0, 49, .inl (nA (cut 49 148 M)))), (w5, .inl (G.2 0, 2, .inl (nA (cut 2 197 M)))), (w6, .inl (G.2 0, 168, .inl (nA (vv M))))] _ := hP
  have hD : va_D AA [(s0, .inr (4, [.int (nI bf), .int (nI bs), .int (nI bm), .ref w0, .ref s1])), (s1, .inl (G.2 0, 49, .inl (nA (xW SW a b n)))), (w0, .inr (1, fs)), (w3, .inl (G.2 0, 49, .inl (nA (cut 49 148 M)))), (w5, .inl (G.2 0, 2, .inl (nA (cut 2 197 M)))), (w6, .inl (G.2 0, 168, .inl (nA (vv M))))] := hD
  refine lv_iload_n hx hb dX4_exchange_2 rfl (lv_at hl 3 rfl) ?_
  refine nr_bi (v := 49) hx hb dX4_exchange_3 (by decide +kernel) ?_
  refine br_ige (tgt := 50) hx hb dX4_exchange_5 (by decide) (by omega) (by decide) (fun h3 => ?_) (fun h3 => ?_)
  · skip
    have e2 : n = 7 := (by omega)
    subst e2
    exact wretv hx hb hr hlk hK hS (()) hP hD (trivial) dX4_exchange_50
  · skip
    refine lv_aload_n hx hb dX4_exchange_8 rfl (lv_at hl 0 rfl) ?_
    refine va_get (D := G.1) (ci := 4) (v := .ref s1) (C := RX4) (T := TX4) (N := 5) hx hb hts hF4 hown hK hP 0 rfl rfl 4 (by decide) (hts (.fieldLink RX4 9 "CousinShares$Shares" "worths" "[I") (List.mem_of_getElem? (i := 1) rfl)) (fun _ h9 => h9) rfl dX4_exchange_9 ?_
    refine lv_iload_n hx hb dX4_exchange_12 rfl (lv_at hl 3 rfl) ?_
    refine lv_iload_n hx hb dX4_exchange_13 rfl (lv_at hl 1 rfl) ?_
    refine nr_add hx hb dX4_exchange_14 ?_
    refine nr_ald hx hb hK hP 1 rfl (by omega) (by decide) dX4_exchange_15 ?_
    refine nr_top (y := nI (SW (7 * n + a))) (congrArg nI (xW_at ha)) ?_
    refine lv_istore (lv' := [(4, .int (nI (SW (7 * n + a)))), (0, .ref s0), (1, .int (nI a)), (2, .int (nI b)), (3, .int (nI (7 * n)))]) hx hb dX4_exchange_16 hl (by decide) rfl (fun ls hl => ?_)
    refine lv_aload_n hx hb dX4_exchange_18 rfl (lv_at hl 1 rfl) ?_
    refine va_get (D := G.1) (ci := 4) (v := .ref s1) (C := RX4) (T := TX4) (N := 5) hx hb hts hF4 hown hK hP 0 rfl rfl 4 (by decide) (hts (.fieldLink RX4 9 "CousinShares$Shares" "worths" "[I") (List.mem_of_getElem? (i := 1) rfl)) (fun _ h9 => h9) rfl dX4_exchange_19 ?_
    refine lv_iload_n hx hb dX4_exchange_22 rfl (lv_at hl 4 rfl) ?_
    refine lv_iload_n hx hb dX4_exchange_23 rfl (lv_at hl 2 rfl) ?_
    refine nr_add hx hb dX4_exchange_24 ?_
    refine lv_aload_n hx hb dX4_exchange_25 rfl (lv_at hl 1 rfl) ?_
    refine va_get (D := G.1) (ci := 4) (v := .ref s1) (C := RX4) (T := TX4) (N := 5) hx hb hts hF4 hown hK hP 0 rfl rfl 4 (by decide) (hts (.fieldLink RX4 9 "CousinShares$Shares" "worths" "[I") (List.mem_of_getElem? (i := 1) rfl)) (fun _ h9 => h9) rfl dX4_exchange_26 ?_
    refine lv_iload_n hx hb dX4_exchange_29 rfl (lv_at hl 4 rfl) ?_
    refine lv_iload_n hx hb dX4_exchange_30 rfl (lv_at hl 3 rfl) ?_
    refine nr_add hx hb dX4_exchange_31 ?_
    refine nr_ald hx hb hK hP 1 rfl (by omega) (by decide) dX4_exchange_32 ?_
    refine nr_top (y := nI (SW (7 * n + b))) (congrArg nI (xW_at hb7)) ?_
    refine nr_ast (ws' := [(s0, .inr (4, [.int (nI bf), .int (nI bs), .int (nI bm), .ref w0, .ref s1])), (s1, .inl (G.2 0, 49, .inl (nA (va_up (xW SW a b n) ((7 * n) + a) (SW (7 * n + b)))))), (w0, .inr (1, fs)), (w3, .inl (G.2 0, 49, .inl (nA (cut 49 148 M)))), (w5, .inl (G.2 0, 2, .inl (nA (cut 2 197 M)))), (w6, .inl (G.2 0, 168, .inl (nA (vv M))))]) hx hb hK hP hD hS 1 rfl (by omega) (by decide) dX4_exchange_33 rfl (fun H locs hP hD hS => ?_)
    refine lv_aload_n hx hb dX4_exchange_34 rfl (lv_at hl 1 rfl) ?_
    refine va_get (D := G.1) (ci := 4) (v := .ref s1) (C := RX4) (T := TX4) (N := 5) hx hb hts hF4 hown hK hP 0 rfl rfl 4 (by decide) (hts (.fieldLink RX4 9 "CousinShares$Shares" "worths" "[I") (List.mem_of_getElem? (i := 1) rfl)) (fun _ h9 => h9) rfl dX4_exchange_35 ?_
    refine lv_iload_n hx hb dX4_exchange_38 rfl (lv_at hl 4 rfl) ?_
    refine lv_iload_n hx hb dX4_exchange_39 rfl (lv_at hl 3 rfl) ?_
    refine nr_add hx hb dX4_exchange_40 ?_
    refine lv_iload hx hb dX4_exchange_41 (lv_at hl 0 rfl) ?_
    refine nr_ast (ws' := [(s0, .inr (4, [.int (nI bf), .int (nI bs), .int (nI bm), .ref w0, .ref s1])), (s1, .inl (G.2 0, 49, .inl (nA (va_up (va_up (xW SW a b n) ((7 * n) + a) (SW (7 * n + b))) ((7 * n) + b) (SW (7 * n + a)))))), (w0, .inr (1, fs)), (w3, .inl (G.2 0, 49, .inl (nA (cut 49 148 M)))), (w5, .inl (G.2 0, 2, .inl (nA (cut 2 197 M)))), (w6, .inl (G.2 0, 168, .inl (nA (vv M))))]) hx hb hK hP hD hS 1 rfl (by omega) (by decide) dX4_exchange_43 rfl (fun H locs hP hD hS => ?_)
    refine nr_inc (d := 7) (v := (7 * n) + 7) (lv' := [(3, .int (nI ((7 * n) + 7))), (4, .int (nI (SW (7 * n + a)))), (0, .ref s0), (1, .int (nI a)), (2, .int (nI b))]) hx hb dX4_exchange_44 hl (k := 4) rfl rfl (by decide) rfl (fun ls hl => ?_)
    refine lv_goto (tgt := 2) hx hb dX4_exchange_47 (by decide) ?_
    have efx : 7 * (n + 1) = 7 * n + 7 := Nat.mul_succ 7 n
    rw [xW_s SW ha hb7] at hP hD
    exact ih1 (n + 1) ls H locs (by show lv_has ls 5 [(0, .ref s0), (1, .int (nI a)), (2, .int (nI b)), (3, .int (nI (7 * (n + 1))))]; rw [efx]; exact lv_sub hl [2, 3, 4, 0] rfl) hP hD hS (by omega) (by omega))

set_option maxHeartbeats 4000000 in
set_option maxRecDepth 100000 in
theorem c_X4_worthOf (l : Launch) (G : gG) (s0 : Nat) (bf : Nat) (bs : Nat) (bm : Nat) (w0 : Nat) (s1 : Nat) (SW : Nat → Nat) (w3 : Nat) (w5 : Nat) (w6 : Nat) (fs : List Value) (M : Nat → Nat) (O : Nat → Nat) (c : Nat) (d : Nat) (hf2 : fs[2]? = some (.ref w3)) (hf4 : fs[4]? = some (.ref w5)) (hf5 : fs[5]? = some (.ref w6)) (h0k : ok M) (hSW : wOk M O SW) (hc : c < 7) (hd : d < 7) : Met l yX4_worthOf wsX4_worthOf ({ frames := 0, cells := 0, slots := 0, locals := 0 } : Room) (RDn G [(s0, .inr (4, [.int (nI bf), .int (nI bs), .int (nI bm), .ref w0, .ref s1])), (s1, .inl (G.2 0, 49, .inl (nA SW))), (w0, .inr (1, fs)), (w3, .inl (G.2 0, 49, .inl (nA (cut 49 148 M)))), (w5, .inl (G.2 0, 2, .inl (nA (cut 2 197 M)))), (w6, .inl (G.2 0, 168, .inl (nA (vv M))))] [.ref s0, .int (nI c), .int (nI d)]) (QcRead (nI (sh M O c d))) 0 0 noF := rdMn (C := RX4) rfl (by decide) rfl (Nat.le_of_ble_eq_true rfl) (fun pX eX sX mX bX meX cX ls hx hb hr hts hown hlk hml hP hK hNW hl => by
  have hl : lv_has ls 3 [(0, .ref s0), (1, .int (nI c)), (2, .int (nI d))] := hl
  have hF4 : ∀ w ∈ wsX40, w ∈ wsX4_worthOf := fun _ h => (List.mem_cons_of_mem _ (List.mem_append_right _ h))
  refine lv_aload_n hx hb dX4_worthOf_0 rfl (lv_at hl 0 rfl) ?_
  refine va_get (D := G.1) (ci := 4) (v := .ref s1) (C := RX4) (T := TX4) (N := 5) hx hb hts hF4 hown hK hP 0 rfl rfl 4 (by decide) (hts (.fieldLink RX4 9 "CousinShares$Shares" "worths" "[I") (List.mem_of_getElem? (i := 1) rfl)) (fun _ h9 => h9) rfl dX4_worthOf_1 ?_
  refine lv_iload_n hx hb dX4_worthOf_4 rfl (lv_at hl 1 rfl) ?_
  refine nr_bi (v := 7) hx hb dX4_worthOf_5 (by decide +kernel) ?_
  refine nr_mul hx hb dX4_worthOf_7 ?_
  refine lv_iload_n hx hb dX4_worthOf_8 rfl (lv_at hl 2 rfl) ?_
  refine nr_add hx hb dX4_worthOf_9 ?_
  refine nr_ald hx hb hK hP 1 rfl (by omega) (by decide) dX4_worthOf_10 ?_
  refine nr_top (y := nI (sh M O c d)) (congrArg nI (hSW c hc d hd)) ?_
  exact rret hx hb hr hlk (rfl) dX4_worthOf_11)

set_option maxHeartbeats 4000000 in
set_option maxRecDepth 100000 in
theorem c_X4_seeming (l : Launch) (G : gG) (s0 : Nat) (bf : Nat) (bs : Nat) (bm : Nat) (w0 : Nat) (s1 : Nat) (SW : Nat → Nat) (w3 : Nat) (w5 : Nat) (w6 : Nat) (fs : List Value) (M : Nat → Nat) (O : Nat → Nat) (c : Nat) (d : Nat) (hf2 : fs[2]? = some (.ref w3)) (hf4 : fs[4]? = some (.ref w5)) (hf5 : fs[5]? = some (.ref w6)) (h0k : ok M) (hSW : wOk M O SW) (hc : c < 7) (hd : d < 7) : Met l yX4_seeming wsX4_seeming ({ frames := 0, cells := 0, slots := 0, locals := 0 } : Room) (RDn G [(s0, .inr (4, [.int (nI bf), .int (nI bs), .int (nI bm), .ref w0, .ref s1])), (s1, .inl (G.2 0, 49, .inl (nA SW))), (w0, .inr (1, fs)), (w3, .inl (G.2 0, 49, .inl (nA (cut 49 148 M)))), (w5, .inl (G.2 0, 2, .inl (nA (cut 2 197 M)))), (w6, .inl (G.2 0, 168, .inl (nA (vv M))))] [.ref s0, .int (nI c), .int (nI d)]) (QcRead (nI (se M O c d))) 0 0 noF := rdMn (C := RX4) rfl (by decide) rfl (Nat.le_of_ble_eq_true rfl) (fun pX eX sX mX bX meX cX ls hx hb hr hts hown hlk hml hP hK hNW hl => by
  have hl : lv_has ls 4 [(0, .ref s0), (1, .int (nI c)), (2, .int (nI d))] := hl
  have hF1 : ∀ w ∈ wsX10, w ∈ wsX4_seeming := fun _ h => (List.mem_cons_of_mem _ (List.mem_append_right _ h))
  have hF4 : ∀ w ∈ wsX40, w ∈ wsX4_seeming := fun _ h => (List.mem_cons_of_mem _ (List.mem_append_left _ (List.mem_append_right _ h)))
  have hx1 := sx_le (O := O) h0k hc hd
  refine lv_iload_n hx hb dX4_seeming_0 rfl (lv_at hl 1 rfl) ?_
  refine nr_bi (v := 7) hx hb dX4_seeming_1 (by decide +kernel) ?_
  refine nr_mul hx hb dX4_seeming_3 ?_
  refine lv_iload_n hx hb dX4_seeming_4 rfl (lv_at hl 2 rfl) ?_
  refine nr_add hx hb dX4_seeming_5 ?_
  refine lv_istore_n (lv' := [(3, .int (nI ((c * 7) + d))), (0, .ref s0), (1, .int (nI c)), (2, .int (nI d))]) hx hb dX4_seeming_6 rfl hl (by decide) rfl (fun ls hl => ?_)
  refine lv_aload_n hx hb dX4_seeming_7 rfl (lv_at hl 1 rfl) ?_
  refine va_get (D := G.1) (ci := 4) (v := .ref s1) (C := RX4) (T := TX4) (N := 5) hx hb hts hF4 hown hK hP 0 rfl rfl 4 (by decide) (hts (.fieldLink RX4 9 "CousinShares$Shares" "worths" "[I") (List.mem_of_getElem? (i := 1) rfl)) (fun _ h9 => h9) rfl dX4_seeming_8 ?_
  refine lv_iload_n hx hb dX4_seeming_11 rfl (lv_at hl 0 rfl) ?_
  refine nr_ald hx hb hK hP 1 rfl (by omega) (by decide) dX4_seeming_12 ?_
  refine nr_top (y := nI (sh M O c d)) (congrArg nI (hSW c hc d hd)) ?_
  refine nr_bi (v := 10) hx hb dX4_seeming_13 (by decide +kernel) ?_
  refine lv_aload_n hx hb dX4_seeming_15 rfl (lv_at hl 1 rfl) ?_
  refine va_get (D := G.1) (ci := 4) (v := .ref w0) (C := RX4) (T := TX4) (N := 5) hx hb hts hF4 hown hK hP 0 rfl rfl 3 (by decide) (hts (.fieldLink RX4 15 "CousinShares$Shares" "harvest" "LCousinShares$Harvest;") (List.mem_of_getElem? (i := 2) rfl)) (fun _ h9 => h9) rfl dX4_seeming_16 ?_
  refine va_get (D := G.1) (ci := 1) (v := .ref w3) (C := RX1) (T := TX1) (N := 9) hx hb hts hF1 hown hK hP 2 rfl rfl 2 (by decide) (hts (.fieldLink RX4 29 "CousinShares$Harvest" "grudges" "[I") (List.mem_of_getElem? (i := 3) rfl)) (fun _ h9 => h9) hf2 dX4_seeming_19 ?_
  refine lv_iload_n hx hb dX4_seeming_22 rfl (lv_at hl 0 rfl) ?_
  refine nr_ald hx hb hK hP 3 rfl (by omega) (by decide) dX4_seeming_23 ?_
  refine nr_top (y := nI (gr M c d)) (congrArg nI (gr_cut hc hd)) ?_
  refine nr_add hx hb dX4_seeming_24 ?_
  refine nr_mul hx hb dX4_seeming_25 ?_
  refine nr_bi (v := 10) hx hb dX4_seeming_26 (by decide +kernel) ?_
  refine nr_div hx hb dX4_seeming_28 (by omega) (by decide) (by decide) ?_
  exact rret hx hb hr hlk (rfl) dX4_seeming_29)

set_option maxHeartbeats 4000000 in
set_option maxRecDepth 100000 in
theorem c_X4_envy (l : Launch) (G : gG) (s0 : Nat) (bf : Nat) (bs : Nat) (bm : Nat) (w0 : Nat) (s1 : Nat) (SW : Nat → Nat) (w3 : Nat) (w5 : Nat) (w6 : Nat) (fs : List Value) (M : Nat → Nat) (O : Nat → Nat) (c : Nat) (d : Nat) (hf2 : fs[2]? = some (.ref w3)) (hf4 : fs[4]? = some (.ref w5)) (hf5 : fs[5]? = some (.ref w6)) (h0k : ok M) (hSW : wOk M O SW) (hc : c < 7) (hd : d < 7) : Met l yX4_envy wsX4_envy ({ frames := 1, cells := 0, slots := 0, locals := 40 } : Room) (RDn G [(s0, .inr (4, [.int (nI bf), .int (nI bs), .int (nI bm), .ref w0, .ref s1])), (s1, .inl (G.2 0, 49, .inl (nA SW))), (w0, .inr (1, fs)), (w3, .inl (G.2 0, 49, .inl (nA (cut 49 148 M)))), (w5, .inl (G.2 0, 2, .inl (nA (cut 2 197 M)))), (w6, .inl (G.2 0, 168, .inl (nA (vv M))))] [.ref s0, .int (nI c), .int (nI d)]) (QcRead (nI (ev M O c d))) 0 0 noF := rdMn (C := RX4) rfl (by decide) rfl (Nat.le_of_ble_eq_true rfl) (fun pX eX sX mX bX meX cX ls hx hb hr hts hown hlk hml hP hK hNW hl => by
  have hl : lv_has ls 3 [(0, .ref s0), (1, .int (nI c)), (2, .int (nI d))] := hl
  refine lv_iload_n hx hb dX4_envy_0 rfl (lv_at hl 1 rfl) ?_
  refine lv_iload_n hx hb dX4_envy_1 rfl (lv_at hl 2 rfl) ?_
  refine br_ine (tgt := 7) hx hb dX4_envy_2 (by decide) (by omega) (by omega) (fun h1 => ?_) (fun h1 => ?_)
  · skip
    refine nr_const (v := 0) hx hb dX4_envy_7 rfl ?_
    refine lv_aload_n hx hb dX4_envy_8 rfl (lv_at hl 0 rfl) ?_
    refine lv_iload_n hx hb dX4_envy_9 rfl (lv_at hl 1 rfl) ?_
    refine lv_iload_n hx hb dX4_envy_10 rfl (lv_at hl 2 rfl) ?_
    refine rcVn (As := [.int (nI c), .int (nI d)]) (wl := [(s0, .inr (4, [.int (nI bf), .int (nI bs), .int (nI bm), .ref w0, .ref s1])), (s1, .inl (G.2 0, 49, .inl (nA SW))), (w0, .inr (1, fs)), (w3, .inl (G.2 0, 49, .inl (nA (cut 49 148 M)))), (w5, .inl (G.2 0, 2, .inl (nA (cut 2 197 M)))), (w6, .inl (G.2 0, 168, .inl (nA (vv M))))]) ⟨hx, hb, hml, hown, hts⟩ (c_X4_seeming l G s0 bf bs bm w0 s1 SW w3 w5 w6 fs M O c d hf2 hf4 hf5 h0k hSW (by omega) (by omega)) (cwV 2 hts gX4_envy_X4_seeming rfl rfl rfl (by decide +kernel) ⟨Nat.le_of_ble_eq_true rfl, Nat.le_of_ble_eq_true rfl⟩) hK hP hNW 4 0 rfl rfl rfl hl.1 rfl (Nat.le_of_ble_eq_true rfl) dX4_envy_11 ⟨Nat.zero_le _, Nat.zero_le _⟩ ?_
    refine lv_aload_n hx hb dX4_envy_14 rfl (lv_at hl 0 rfl) ?_
    refine lv_iload_n hx hb dX4_envy_15 rfl (lv_at hl 1 rfl) ?_
    refine lv_iload_n hx hb dX4_envy_16 rfl (lv_at hl 1 rfl) ?_
    refine rcVn (As := [.int (nI c), .int (nI c)]) (wl := [(s0, .inr (4, [.int (nI bf), .int (nI bs), .int (nI bm), .ref w0, .ref s1])), (s1, .inl (G.2 0, 49, .inl (nA SW))), (w0, .inr (1, fs)), (w3, .inl (G.2 0, 49, .inl (nA (cut 49 148 M)))), (w5, .inl (G.2 0, 2, .inl (nA (cut 2 197 M)))), (w6, .inl (G.2 0, 168, .inl (nA (vv M))))]) ⟨hx, hb, hml, hown, hts⟩ (c_X4_worthOf l G s0 bf bs bm w0 s1 SW w3 w5 w6 fs M O c c hf2 hf4 hf5 h0k hSW (by omega) (by omega)) (cwV 2 hts gX4_envy_X4_worthOf rfl rfl rfl (by decide +kernel) ⟨Nat.le_of_ble_eq_true rfl, Nat.le_of_ble_eq_true rfl⟩) hK hP hNW 4 0 rfl rfl rfl hl.1 rfl (Nat.le_of_ble_eq_true rfl) dX4_envy_17 ⟨Nat.zero_le _, Nat.zero_le _⟩ ?_
    refine lv_isub hx hb dX4_envy_20 ?_
    refine va_mmax hx hb (hml.trans hl.1.symm) hown (hts (.methodLink RX4 36 Lib.Math.max.name) (List.mem_of_getElem? (i := 1) rfl)) (hts (.static Lib.Math.max.name) (List.mem_of_getElem? (i := 2) rfl)) (hts (.initialized "java/lang/Math") (List.mem_of_getElem? (i := 3) rfl)) (hts (.code Lib.Math.max.name Lib.Math.max.code 2 (some .int)) (List.mem_of_getElem? (i := 4) rfl)) (Nat.le_of_ble_eq_true rfl) (by decide) (Nat.zero_le _) (Nat.zero_le _) dX4_envy_21 ?_
    exact rret hx hb hr hlk (ev_mx h0k hc hd (by assumption)) dX4_envy_24
  · skip
    refine nr_const (v := 0) hx hb dX4_envy_5 rfl ?_
    exact rret hx hb hr hlk (ev_e (by assumption)) dX4_envy_6)

set_option maxHeartbeats 4000000 in
set_option maxRecDepth 100000 in
theorem c_X4_enviesOf (l : Launch) (G : gG) (s0 : Nat) (bf : Nat) (bs : Nat) (bm : Nat) (w0 : Nat) (s1 : Nat) (SW : Nat → Nat) (w3 : Nat) (w5 : Nat) (w6 : Nat) (fs : List Value) (M : Nat → Nat) (O : Nat → Nat) (c : Nat) (B : Nat) (hf2 : fs[2]? = some (.ref w3)) (hf4 : fs[4]? = some (.ref w5)) (hf5 : fs[5]? = some (.ref w6)) (h0k : ok M) (hSW : wOk M O SW) (hc : c < 7) (hB : B < 128) : Met l yX4_enviesOf wsX4_enviesOf ({ frames := 2, cells := 0, slots := 0, locals := 62 } : Room) (RDn G [(s0, .inr (4, [.int (nI bf), .int (nI bs), .int (nI bm), .ref w0, .ref s1])), (s1, .inl (G.2 0, 49, .inl (nA SW))), (w0, .inr (1, fs)), (w3, .inl (G.2 0, 49, .inl (nA (cut 49 148 M)))), (w5, .inl (G.2 0, 2, .inl (nA (cut 2 197 M)))), (w6, .inl (G.2 0, 168, .inl (nA (vv M))))] [.ref s0, .int (nI c), .int (nI B)]) (QcRead (nI (ea M O c B 7))) 0 0 noF := rdMn (C := RX4) rfl (by decide) rfl (Nat.le_of_ble_eq_true rfl) (fun pX eX sX mX bX meX cX ls hx hb hr hts hown hlk hml hP hK hNW hl => by
  have hl : lv_has ls 5 [(0, .ref s0), (1, .int (nI c)), (2, .int (nI B))] := hl
  refine nr_const (v := 0) hx hb dX4_enviesOf_0 rfl ?_
  refine lv_istore_n (lv' := [(3, .int (nI 0)), (0, .ref s0), (1, .int (nI c)), (2, .int (nI B))]) hx hb dX4_enviesOf_1 rfl hl (by decide) rfl (fun ls hl => ?_)
  refine nr_const (v := 0) hx hb dX4_enviesOf_2 rfl ?_
  refine lv_istore (lv' := [(4, .int (nI 0)), (3, .int (nI 0)), (0, .ref s0), (1, .int (nI c)), (2, .int (nI B))]) hx hb dX4_enviesOf_3 hl (by decide) rfl (fun ls hl => ?_)
  refine loop_r (T := Nat) (nL := 5) (fun i => i ≤ 7) (fun i => 7 - i) (fun i => [(0, .ref s0), (1, .int (nI c)), (2, .int (nI B)), (3, .int (nI (ea M O c B i))), (4, .int (nI i))]) ?_ 0 (lv_sub hl [2, 3, 4, 1, 0] rfl) (by omega)
  intro i ls hl hi2 ih1
  have hi2_0 := hi2
  have hi2_0 : i ≤ 7 := hi2_0
  have hl : lv_has ls 5 [(0, .ref s0), (1, .int (nI c)), (2, .int (nI B)), (3, .int (nI (ea M O c B i))), (4, .int (nI i))] := hl
  refine lv_iload hx hb dX4_enviesOf_5 (lv_at hl 4 rfl) ?_
  refine nr_bi (v := 7) hx hb dX4_enviesOf_7 (by decide +kernel) ?_
  refine br_ige (tgt := 37) hx hb dX4_enviesOf_9 (by decide) (by omega) (by decide) (fun h3 => ?_) (fun h3 => ?_)
  · skip
    refine lv_iload_n hx hb dX4_enviesOf_37 rfl (lv_at hl 3 rfl) ?_
    exact rret hx hb hr hlk (by have e : i = 7 := (by omega); subst e; rfl) dX4_enviesOf_38
  · skip
    refine lv_iload_n hx hb dX4_enviesOf_12 rfl (lv_at hl 2 rfl) ?_
    refine lv_iload hx hb dX4_enviesOf_13 (lv_at hl 4 rfl) ?_
    refine rcN (As := [.int (nI B), .int (nI i)]) ⟨hx, hb, hml, hown, hts⟩ (c_X5_contains l B i (by omega) (by omega)) ⟨va_cnB 2 hts gX4_enviesOf_X5_contains_n41 rfl rfl rfl hNW.2.2.2.1 (hts (.initialized RX5) (List.mem_of_getElem? (i := 2) rfl)) (by decide +kernel) ⟨Nat.le_of_ble_eq_true rfl, Nat.le_of_ble_eq_true rfl⟩, (hts (.static yX5_contains) (List.mem_of_getElem? (i := 1) rfl)), trivial⟩ rfl hl.1 rfl (Nat.le_of_ble_eq_true rfl) dX4_enviesOf_15 ⟨Nat.zero_le _, Nat.zero_le _⟩ ?_
    refine br_eqb (tgt := 31) hx hb dX4_enviesOf_18 (by decide) (fun h4 => ?_) (fun h4 => ?_)
    · skip
      refine nr_inc (d := 1) (v := i + 1) (lv' := [(4, .int (nI (i + 1))), (0, .ref s0), (1, .int (nI c)), (2, .int (nI B)), (3, .int (nI (ea M O c B i)))]) hx hb dX4_enviesOf_31 hl (k := 4) rfl rfl (by decide) rfl (fun ls hl => ?_)
      refine lv_goto (tgt := 5) hx hb dX4_enviesOf_34 (by decide) ?_
      have efx : ea M O c B (i + 1) = ea M O c B i := congrArg (fun z => ea M O c B i + z) (if_neg h4)
      exact ih1 (i + 1) ls (by show lv_has ls 5 [(0, .ref s0), (1, .int (nI c)), (2, .int (nI B)), (3, .int (nI (ea M O c B (i + 1)))), (4, .int (nI (i + 1)))]; rw [efx]; exact lv_sub hl [1, 2, 3, 4, 0] rfl) (by omega) (by omega)
    · skip
      refine lv_iload_n hx hb dX4_enviesOf_21 rfl (lv_at hl 3 rfl) ?_
      refine lv_aload_n hx hb dX4_enviesOf_22 rfl (lv_at hl 0 rfl) ?_
      refine lv_iload_n hx hb dX4_enviesOf_23 rfl (lv_at hl 1 rfl) ?_
      refine lv_iload hx hb dX4_enviesOf_24 (lv_at hl 4 rfl) ?_
      refine rcVn (As := [.int (nI c), .int (nI i)]) (wl := [(s0, .inr (4, [.int (nI bf), .int (nI bs), .int (nI bm), .ref w0, .ref s1])), (s1, .inl (G.2 0, 49, .inl (nA SW))), (w0, .inr (1, fs)), (w3, .inl (G.2 0, 49, .inl (nA (cut 49 148 M)))), (w5, .inl (G.2 0, 2, .inl (nA (cut 2 197 M)))), (w6, .inl (G.2 0, 168, .inl (nA (vv M))))]) ⟨hx, hb, hml, hown, hts⟩ (c_X4_envy l G s0 bf bs bm w0 s1 SW w3 w5 w6 fs M O c i hf2 hf4 hf5 h0k hSW (by omega) (by omega)) (cwV 2 hts gX4_enviesOf_X4_envy rfl rfl rfl (by decide +kernel) ⟨Nat.le_of_ble_eq_true rfl, Nat.le_of_ble_eq_true rfl⟩) hK hP hNW 4 0 rfl rfl rfl hl.1 rfl (Nat.le_of_ble_eq_true rfl) dX4_enviesOf_26 ⟨Nat.zero_le _, Nat.zero_le _⟩ ?_
      refine nr_add hx hb dX4_enviesOf_29 ?_
      refine lv_istore_n (lv' := [(3, .int (nI ((ea M O c B i) + (ev M O c i)))), (0, .ref s0), (1, .int (nI c)), (2, .int (nI B)), (4, .int (nI i))]) hx hb dX4_enviesOf_30 rfl hl (by decide) rfl (fun ls hl => ?_)
      refine nr_inc (d := 1) (v := i + 1) (lv' := [(4, .int (nI (i + 1))), (3, .int (nI ((ea M O c B i) + (ev M O c i)))), (0, .ref s0), (1, .int (nI c)), (2, .int (nI B))]) hx hb dX4_enviesOf_31 hl (k := 4) rfl rfl (by decide) rfl (fun ls hl => ?_)
      refine lv_goto (tgt := 5) hx hb dX4_enviesOf_34 (by decide) ?_
      have efx : ea M O c B (i + 1) = ea M O c B i + ev M O c i := congrArg (fun z => ea M O c B i + z) (if_pos h4)
      exact ih1 (i + 1) ls (by show lv_has ls 5 [(0, .ref s0), (1, .int (nI c)), (2, .int (nI B)), (3, .int (nI (ea M O c B (i + 1)))), (4, .int (nI (i + 1)))]; rw [efx]; exact lv_sub hl [2, 3, 4, 1, 0] rfl) (by omega) (by omega))

set_option maxHeartbeats 4000000 in
set_option maxRecDepth 100000 in
theorem c_X4_enviesAmong (l : Launch) (G : gG) (s0 : Nat) (bf : Nat) (bs : Nat) (bm : Nat) (w0 : Nat) (s1 : Nat) (SW : Nat → Nat) (w3 : Nat) (w5 : Nat) (w6 : Nat) (fs : List Value) (M : Nat → Nat) (O : Nat → Nat) (A : Nat) (hf2 : fs[2]? = some (.ref w3)) (hf4 : fs[4]? = some (.ref w5)) (hf5 : fs[5]? = some (.ref w6)) (h0k : ok M) (hSW : wOk M O SW) (hA : A < 128) : Met l yX4_enviesAmong wsX4_enviesAmong ({ frames := 3, cells := 0, slots := 0, locals := 86 } : Room) (RDn G [(s0, .inr (4, [.int (nI bf), .int (nI bs), .int (nI bm), .ref w0, .ref s1])), (s1, .inl (G.2 0, 49, .inl (nA SW))), (w0, .inr (1, fs)), (w3, .inl (G.2 0, 49, .inl (nA (cut 49 148 M)))), (w5, .inl (G.2 0, 2, .inl (nA (cut 2 197 M)))), (w6, .inl (G.2 0, 168, .inl (nA (vv M))))] [.ref s0, .int (nI A)]) (QcRead (nI (es M O A A))) 0 0 noF := rdMn (C := RX4) rfl (by decide) rfl (Nat.le_of_ble_eq_true rfl) (fun pX eX sX mX bX meX cX ls hx hb hr hts hown hlk hml hP hK hNW hl => by
  have hl : lv_has ls 4 [(0, .ref s0), (1, .int (nI A))] := hl
  refine nr_const (v := 0) hx hb dX4_enviesAmong_0 rfl ?_
  refine lv_istore_n (lv' := [(2, .int (nI 0)), (0, .ref s0), (1, .int (nI A))]) hx hb dX4_enviesAmong_1 rfl hl (by decide) rfl (fun ls hl => ?_)
  refine nr_const (v := 0) hx hb dX4_enviesAmong_2 rfl ?_
  refine lv_istore_n (lv' := [(3, .int (nI 0)), (2, .int (nI 0)), (0, .ref s0), (1, .int (nI A))]) hx hb dX4_enviesAmong_3 rfl hl (by decide) rfl (fun ls hl => ?_)
  refine loop_r (T := Nat) (nL := 4) (fun i => i ≤ 7) (fun i => 7 - i) (fun i => [(0, .ref s0), (1, .int (nI A)), (2, .int (nI (sm (fun c => if bt A c = 1 then ea M O c A 7 else 0) i))), (3, .int (nI i))]) ?_ 0 (lv_sub hl [2, 3, 1, 0] rfl) (by omega)
  intro i ls hl hi2 ih1
  have hi2_0 := hi2
  have hi2_0 : i ≤ 7 := hi2_0
  have hl : lv_has ls 4 [(0, .ref s0), (1, .int (nI A)), (2, .int (nI (sm (fun c => if bt A c = 1 then ea M O c A 7 else 0) i))), (3, .int (nI i))] := hl
  refine lv_iload_n hx hb dX4_enviesAmong_4 rfl (lv_at hl 3 rfl) ?_
  refine nr_bi (v := 7) hx hb dX4_enviesAmong_5 (by decide +kernel) ?_
  refine br_ige (tgt := 33) hx hb dX4_enviesAmong_7 (by decide) (by omega) (by decide) (fun h3 => ?_) (fun h3 => ?_)
  · skip
    refine lv_iload_n hx hb dX4_enviesAmong_33 rfl (lv_at hl 2 rfl) ?_
    exact rret hx hb hr hlk (by have e : i = 7 := (by omega); subst e; exact congrArg nI (es_ea M O A A).symm) dX4_enviesAmong_34
  · skip
    refine lv_iload_n hx hb dX4_enviesAmong_10 rfl (lv_at hl 1 rfl) ?_
    refine lv_iload_n hx hb dX4_enviesAmong_11 rfl (lv_at hl 3 rfl) ?_
    refine rcN (As := [.int (nI A), .int (nI i)]) ⟨hx, hb, hml, hown, hts⟩ (c_X5_contains l A i (by omega) (by omega)) ⟨va_cnB 2 hts gX4_enviesAmong_X5_contains_n41 rfl rfl rfl hNW.2.2.2.1 (hts (.initialized RX5) (List.mem_of_getElem? (i := 2) rfl)) (by decide +kernel) ⟨Nat.le_of_ble_eq_true rfl, Nat.le_of_ble_eq_true rfl⟩, (hts (.static yX5_contains) (List.mem_of_getElem? (i := 1) rfl)), trivial⟩ rfl hl.1 rfl (Nat.le_of_ble_eq_true rfl) dX4_enviesAmong_12 ⟨Nat.zero_le _, Nat.zero_le _⟩ ?_
    refine br_eqb (tgt := 27) hx hb dX4_enviesAmong_15 (by decide) (fun h4 => ?_) (fun h4 => ?_)
    · skip
      refine nr_inc (d := 1) (v := i + 1) (lv' := [(3, .int (nI (i + 1))), (0, .ref s0), (1, .int (nI A)), (2, .int (nI (sm (fun c => if bt A c = 1 then ea M O c A 7 else 0) i)))]) hx hb dX4_enviesAmong_27 hl (k := 3) rfl rfl (by decide) rfl (fun ls hl => ?_)
      refine lv_goto (tgt := 4) hx hb dX4_enviesAmong_30 (by decide) ?_
      have efx : sm (fun c => if bt A c = 1 then ea M O c A 7 else 0) (i + 1) = sm (fun c => if bt A c = 1 then ea M O c A 7 else 0) i := congrArg (fun z => sm (fun c => if bt A c = 1 then ea M O c A 7 else 0) i + z) (if_neg h4)
      exact ih1 (i + 1) ls (by show lv_has ls 4 [(0, .ref s0), (1, .int (nI A)), (2, .int (nI (sm (fun c => if bt A c = 1 then ea M O c A 7 else 0) (i + 1)))), (3, .int (nI (i + 1)))]; rw [efx]; exact lv_sub hl [1, 2, 3, 0] rfl) (by omega) (by omega)
    · skip
      refine lv_iload_n hx hb dX4_enviesAmong_18 rfl (lv_at hl 2 rfl) ?_
      refine lv_aload_n hx hb dX4_enviesAmong_19 rfl (lv_at hl 0 rfl) ?_
      refine lv_iload_n hx hb dX4_enviesAmong_20 rfl (lv_at hl 3 rfl) ?_
      refine lv_iload_n hx hb dX4_enviesAmong_21 rfl (lv_at hl 1 rfl) ?_
      refine rcVn (As := [.int (nI i), .int (nI A)]) (wl := [(s0, .inr (4, [.int (nI bf), .int (nI bs), .int (nI bm), .ref w0, .ref s1])), (s1, .inl (G.2 0, 49, .inl (nA SW))), (w0, .inr (1, fs)), (w3, .inl (G.2 0, 49, .inl (nA (cut 49 148 M)))), (w5, .inl (G.2 0, 2, .inl (nA (cut 2 197 M)))), (w6, .inl (G.2 0, 168, .inl (nA (vv M))))]) ⟨hx, hb, hml, hown, hts⟩ (c_X4_enviesOf l G s0 bf bs bm w0 s1 SW w3 w5 w6 fs M O i A hf2 hf4 hf5 h0k hSW (by omega) (by omega)) (cwV 2 hts gX4_enviesAmong_X4_enviesOf rfl rfl rfl (by decide +kernel) ⟨Nat.le_of_ble_eq_true rfl, Nat.le_of_ble_eq_true rfl⟩) hK hP hNW 4 0 rfl rfl rfl hl.1 rfl (Nat.le_of_ble_eq_true rfl) dX4_enviesAmong_22 ⟨Nat.zero_le _, Nat.zero_le _⟩ ?_
      refine nr_add hx hb dX4_enviesAmong_25 ?_
      refine lv_istore_n (lv' := [(2, .int (nI ((sm (fun c => if bt A c = 1 then ea M O c A 7 else 0) i) + (ea M O i A 7)))), (0, .ref s0), (1, .int (nI A)), (3, .int (nI i))]) hx hb dX4_enviesAmong_26 rfl hl (by decide) rfl (fun ls hl => ?_)
      refine nr_inc (d := 1) (v := i + 1) (lv' := [(3, .int (nI (i + 1))), (2, .int (nI ((sm (fun c => if bt A c = 1 then ea M O c A 7 else 0) i) + (ea M O i A 7)))), (0, .ref s0), (1, .int (nI A))]) hx hb dX4_enviesAmong_27 hl (k := 3) rfl rfl (by decide) rfl (fun ls hl => ?_)
      refine lv_goto (tgt := 4) hx hb dX4_enviesAmong_30 (by decide) ?_
      have efx : sm (fun c => if bt A c = 1 then ea M O c A 7 else 0) (i + 1) = sm (fun c => if bt A c = 1 then ea M O c A 7 else 0) i + ea M O i A 7 := congrArg (fun z => sm (fun c => if bt A c = 1 then ea M O c A 7 else 0) i + z) (if_pos h4)
      exact ih1 (i + 1) ls (by show lv_has ls 4 [(0, .ref s0), (1, .int (nI A)), (2, .int (nI (sm (fun c => if bt A c = 1 then ea M O c A 7 else 0) (i + 1)))), (3, .int (nI (i + 1)))]; rw [efx]; exact lv_sub hl [2, 3, 1, 0] rfl) (by omega) (by omega))

set_option maxHeartbeats 4000000 in
set_option maxRecDepth 100000 in
theorem c_X4_greatestEnvyOf (l : Launch) (G : gG) (s0 : Nat) (bf : Nat) (bs : Nat) (bm : Nat) (w0 : Nat) (s1 : Nat) (SW : Nat → Nat) (w3 : Nat) (w5 : Nat) (w6 : Nat) (fs : List Value) (M : Nat → Nat) (O : Nat → Nat) (c : Nat) (hf2 : fs[2]? = some (.ref w3)) (hf4 : fs[4]? = some (.ref w5)) (hf5 : fs[5]? = some (.ref w6)) (h0k : ok M) (hSW : wOk M O SW) (hc : c < 7) : Met l yX4_greatestEnvyOf wsX4_greatestEnvyOf ({ frames := 2, cells := 0, slots := 0, locals := 62 } : Room) (RDn G [(s0, .inr (4, [.int (nI bf), .int (nI bs), .int (nI bm), .ref w0, .ref s1])), (s1, .inl (G.2 0, 49, .inl (nA SW))), (w0, .inr (1, fs)), (w3, .inl (G.2 0, 49, .inl (nA (cut 49 148 M)))), (w5, .inl (G.2 0, 2, .inl (nA (cut 2 197 M)))), (w6, .inl (G.2 0, 168, .inl (nA (vv M))))] [.ref s0, .int (nI c)]) (QcRead (nI (me M O c 7))) 0 0 noF := rdMn (C := RX4) rfl (by decide) rfl (Nat.le_of_ble_eq_true rfl) (fun pX eX sX mX bX meX cX ls hx hb hr hts hown hlk hml hP hK hNW hl => by
  have hl : lv_has ls 4 [(0, .ref s0), (1, .int (nI c))] := hl
  refine nr_const (v := 0) hx hb dX4_greatestEnvyOf_0 rfl ?_
  refine lv_istore_n (lv' := [(2, .int (nI 0)), (0, .ref s0), (1, .int (nI c))]) hx hb dX4_greatestEnvyOf_1 rfl hl (by decide) rfl (fun ls hl => ?_)
  refine nr_const (v := 0) hx hb dX4_greatestEnvyOf_2 rfl ?_
  refine lv_istore_n (lv' := [(3, .int (nI 0)), (2, .int (nI 0)), (0, .ref s0), (1, .int (nI c))]) hx hb dX4_greatestEnvyOf_3 rfl hl (by decide) rfl (fun ls hl => ?_)
  refine loop_r (T := Nat) (nL := 4) (fun i => i ≤ 7) (fun i => 7 - i) (fun i => [(0, .ref s0), (1, .int (nI c)), (2, .int (nI (me M O c i))), (3, .int (nI i))]) ?_ 0 (lv_sub hl [2, 3, 1, 0] rfl) (by omega)
  intro i ls hl hi2 ih1
  have hi2_0 := hi2
  have hi2_0 : i ≤ 7 := hi2_0
  have hl : lv_has ls 4 [(0, .ref s0), (1, .int (nI c)), (2, .int (nI (me M O c i))), (3, .int (nI i))] := hl
  refine lv_iload_n hx hb dX4_greatestEnvyOf_4 rfl (lv_at hl 3 rfl) ?_
  refine nr_bi (v := 7) hx hb dX4_greatestEnvyOf_5 (by decide +kernel) ?_
  refine br_ige (tgt := 27) hx hb dX4_greatestEnvyOf_7 (by decide) (by omega) (by decide) (fun h3 => ?_) (fun h3 => ?_)
  · skip
    refine lv_iload_n hx hb dX4_greatestEnvyOf_27 rfl (lv_at hl 2 rfl) ?_
    exact rret hx hb hr hlk (by have e : i = 7 := (by omega); subst e; rfl) dX4_greatestEnvyOf_28
  · skip
    have hm1 := me_le (O := O) h0k hc (show i ≤ 7 by omega)
    have hm2 := ev_le (O := O) h0k hc (show i < 7 by omega)
    refine lv_iload_n hx hb dX4_greatestEnvyOf_10 rfl (lv_at hl 2 rfl) ?_
    refine lv_aload_n hx hb dX4_greatestEnvyOf_11 rfl (lv_at hl 0 rfl) ?_
    refine lv_iload_n hx hb dX4_greatestEnvyOf_12 rfl (lv_at hl 1 rfl) ?_
    refine lv_iload_n hx hb dX4_greatestEnvyOf_13 rfl (lv_at hl 3 rfl) ?_
    refine rcVn (As := [.int (nI c), .int (nI i)]) (wl := [(s0, .inr (4, [.int (nI bf), .int (nI bs), .int (nI bm), .ref w0, .ref s1])), (s1, .inl (G.2 0, 49, .inl (nA SW))), (w0, .inr (1, fs)), (w3, .inl (G.2 0, 49, .inl (nA (cut 49 148 M)))), (w5, .inl (G.2 0, 2, .inl (nA (cut 2 197 M)))), (w6, .inl (G.2 0, 168, .inl (nA (vv M))))]) ⟨hx, hb, hml, hown, hts⟩ (c_X4_envy l G s0 bf bs bm w0 s1 SW w3 w5 w6 fs M O c i hf2 hf4 hf5 h0k hSW (by omega) (by omega)) (cwV 2 hts gX4_greatestEnvyOf_X4_envy rfl rfl rfl (by decide +kernel) ⟨Nat.le_of_ble_eq_true rfl, Nat.le_of_ble_eq_true rfl⟩) hK hP hNW 4 0 rfl rfl rfl hl.1 rfl (Nat.le_of_ble_eq_true rfl) dX4_greatestEnvyOf_14 ⟨Nat.zero_le _, Nat.zero_le _⟩ ?_
    refine va_mmax hx hb (hml.trans hl.1.symm) hown (hts (.methodLink RX4 36 Lib.Math.max.name) (List.mem_of_getElem? (i := 1) rfl)) (hts (.static Lib.Math.max.name) (List.mem_of_getElem? (i := 2) rfl)) (hts (.initialized "java/lang/Math") (List.mem_of_getElem? (i := 3) rfl)) (hts (.code Lib.Math.max.name Lib.Math.max.code 2 (some .int)) (List.mem_of_getElem? (i := 4) rfl)) (Nat.le_of_ble_eq_true rfl) (by decide) (Nat.zero_le _) (Nat.zero_le _) dX4_greatestEnvyOf_17 ?_
    refine nr_top (nI_mmax (by omega) (by omega)) ?_
    refine nr_top (y := nI (me M O c (i + 1))) ((congrArg nI (me_mx M O c i)).symm) ?_
    refine lv_istore_n (lv' := [(2, .int (nI (me M O c (i + 1)))), (0, .ref s0), (1, .int (nI c)), (3, .int (nI i))]) hx hb dX4_greatestEnvyOf_20 rfl hl (by decide) rfl (fun ls hl => ?_)
    refine nr_inc (d := 1) (v := i + 1) (lv' := [(3, .int (nI (i + 1))), (2, .int (nI (me M O c (i + 1)))), (0, .ref s0), (1, .int (nI c))]) hx hb dX4_greatestEnvyOf_21 hl (k := 3) rfl rfl (by decide) rfl (fun ls hl => ?_)
    refine lv_goto (tgt := 4) hx hb dX4_greatestEnvyOf_24 (by decide) ?_
    exact ih1 (i + 1) ls (lv_sub hl [2, 3, 1, 0] rfl) (by omega) (by omega))

set_option maxHeartbeats 4000000 in
set_option maxRecDepth 100000 in
theorem c_X4_enviesTowards (l : Launch) (G : gG) (s0 : Nat) (bf : Nat) (bs : Nat) (bm : Nat) (w0 : Nat) (s1 : Nat) (SW : Nat → Nat) (w3 : Nat) (w5 : Nat) (w6 : Nat) (fs : List Value) (M : Nat → Nat) (O : Nat → Nat) (d : Nat) (hf2 : fs[2]? = some (.ref w3)) (hf4 : fs[4]? = some (.ref w5)) (hf5 : fs[5]? = some (.ref w6)) (h0k : ok M) (hSW : wOk M O SW) (hd : d < 7) : Met l yX4_enviesTowards wsX4_enviesTowards ({ frames := 2, cells := 0, slots := 0, locals := 62 } : Room) (RDn G [(s0, .inr (4, [.int (nI bf), .int (nI bs), .int (nI bm), .ref w0, .ref s1])), (s1, .inl (G.2 0, 49, .inl (nA SW))), (w0, .inr (1, fs)), (w3, .inl (G.2 0, 49, .inl (nA (cut 49 148 M)))), (w5, .inl (G.2 0, 2, .inl (nA (cut 2 197 M)))), (w6, .inl (G.2 0, 168, .inl (nA (vv M))))] [.ref s0, .int (nI d)]) (QcRead (nI (sm (fun c => ev M O c d) 7))) 0 0 noF := rdMn (C := RX4) rfl (by decide) rfl (Nat.le_of_ble_eq_true rfl) (fun pX eX sX mX bX meX cX ls hx hb hr hts hown hlk hml hP hK hNW hl => by
  have hl : lv_has ls 4 [(0, .ref s0), (1, .int (nI d))] := hl
  refine nr_const (v := 0) hx hb dX4_enviesTowards_0 rfl ?_
  refine lv_istore_n (lv' := [(2, .int (nI 0)), (0, .ref s0), (1, .int (nI d))]) hx hb dX4_enviesTowards_1 rfl hl (by decide) rfl (fun ls hl => ?_)
  refine nr_const (v := 0) hx hb dX4_enviesTowards_2 rfl ?_
  refine lv_istore_n (lv' := [(3, .int (nI 0)), (2, .int (nI 0)), (0, .ref s0), (1, .int (nI d))]) hx hb dX4_enviesTowards_3 rfl hl (by decide) rfl (fun ls hl => ?_)
  refine loop_r (T := Nat) (nL := 4) (fun i => i ≤ 7) (fun i => 7 - i) (fun i => [(0, .ref s0), (1, .int (nI d)), (2, .int (nI (sm (fun c => ev M O c d) i))), (3, .int (nI i))]) ?_ 0 (lv_sub hl [2, 3, 1, 0] rfl) (by omega)
  intro i ls hl hi2 ih1
  have hi2_0 := hi2
  have hi2_0 : i ≤ 7 := hi2_0
  have hl : lv_has ls 4 [(0, .ref s0), (1, .int (nI d)), (2, .int (nI (sm (fun c => ev M O c d) i))), (3, .int (nI i))] := hl
  refine lv_iload_n hx hb dX4_enviesTowards_4 rfl (lv_at hl 3 rfl) ?_
  refine nr_bi (v := 7) hx hb dX4_enviesTowards_5 (by decide +kernel) ?_
  refine br_ige (tgt := 25) hx hb dX4_enviesTowards_7 (by decide) (by omega) (by decide) (fun h3 => ?_) (fun h3 => ?_)
  · skip
    refine lv_iload_n hx hb dX4_enviesTowards_25 rfl (lv_at hl 2 rfl) ?_
    exact rret hx hb hr hlk (by have e : i = 7 := (by omega); subst e; rfl) dX4_enviesTowards_26
  · skip
    refine lv_iload_n hx hb dX4_enviesTowards_10 rfl (lv_at hl 2 rfl) ?_
    refine lv_aload_n hx hb dX4_enviesTowards_11 rfl (lv_at hl 0 rfl) ?_
    refine lv_iload_n hx hb dX4_enviesTowards_12 rfl (lv_at hl 3 rfl) ?_
    refine lv_iload_n hx hb dX4_enviesTowards_13 rfl (lv_at hl 1 rfl) ?_
    refine rcVn (As := [.int (nI i), .int (nI d)]) (wl := [(s0, .inr (4, [.int (nI bf), .int (nI bs), .int (nI bm), .ref w0, .ref s1])), (s1, .inl (G.2 0, 49, .inl (nA SW))), (w0, .inr (1, fs)), (w3, .inl (G.2 0, 49, .inl (nA (cut 49 148 M)))), (w5, .inl (G.2 0, 2, .inl (nA (cut 2 197 M)))), (w6, .inl (G.2 0, 168, .inl (nA (vv M))))]) ⟨hx, hb, hml, hown, hts⟩ (c_X4_envy l G s0 bf bs bm w0 s1 SW w3 w5 w6 fs M O i d hf2 hf4 hf5 h0k hSW (by omega) (by omega)) (cwV 2 hts gX4_enviesTowards_X4_envy rfl rfl rfl (by decide +kernel) ⟨Nat.le_of_ble_eq_true rfl, Nat.le_of_ble_eq_true rfl⟩) hK hP hNW 4 0 rfl rfl rfl hl.1 rfl (Nat.le_of_ble_eq_true rfl) dX4_enviesTowards_14 ⟨Nat.zero_le _, Nat.zero_le _⟩ ?_
    refine nr_add hx hb dX4_enviesTowards_17 ?_
    refine lv_istore_n (lv' := [(2, .int (nI ((sm (fun c => ev M O c d) i) + (ev M O i d)))), (0, .ref s0), (1, .int (nI d)), (3, .int (nI i))]) hx hb dX4_enviesTowards_18 rfl hl (by decide) rfl (fun ls hl => ?_)
    refine nr_inc (d := 1) (v := i + 1) (lv' := [(3, .int (nI (i + 1))), (2, .int (nI ((sm (fun c => ev M O c d) i) + (ev M O i d)))), (0, .ref s0), (1, .int (nI d))]) hx hb dX4_enviesTowards_19 hl (k := 3) rfl rfl (by decide) rfl (fun ls hl => ?_)
    refine lv_goto (tgt := 4) hx hb dX4_enviesTowards_22 (by decide) ?_
    exact ih1 (i + 1) ls (lv_sub hl [2, 3, 1, 0] rfl) (by omega) (by omega))

set_option maxHeartbeats 4000000 in
set_option maxRecDepth 100000 in
theorem c_X4_contentCousins (l : Launch) (G : gG) (s0 : Nat) (bf : Nat) (bs : Nat) (bm : Nat) (w0 : Nat) (s1 : Nat) (SW : Nat → Nat) (w3 : Nat) (w5 : Nat) (w6 : Nat) (fs : List Value) (M : Nat → Nat) (O : Nat → Nat) (hf2 : fs[2]? = some (.ref w3)) (hf4 : fs[4]? = some (.ref w5)) (hf5 : fs[5]? = some (.ref w6)) (h0k : ok M) (hSW : wOk M O SW) : Met l yX4_contentCousins wsX4_contentCousins ({ frames := 3, cells := 0, slots := 0, locals := 85 } : Room) (RDn G [(s0, .inr (4, [.int (nI bf), .int (nI bs), .int (nI bm), .ref w0, .ref s1])), (s1, .inl (G.2 0, 49, .inl (nA SW))), (w0, .inr (1, fs)), (w3, .inl (G.2 0, 49, .inl (nA (cut 49 148 M)))), (w5, .inl (G.2 0, 2, .inl (nA (cut 2 197 M)))), (w6, .inl (G.2 0, 168, .inl (nA (vv M))))] [.ref s0]) (QcRead (nI (sm (fun c => bb (me M O c 7 = 0)) 7))) 0 0 noF := rdMn (C := RX4) rfl (by decide) rfl (Nat.le_of_ble_eq_true rfl) (fun pX eX sX mX bX meX cX ls hx hb hr hts hown hlk hml hP hK hNW hl => by
  have hl : lv_has ls 3 [(0, .ref s0)] := hl
  refine nr_const (v := 0) hx hb dX4_contentCousins_0 rfl ?_
  refine lv_istore_n (lv' := [(1, .int (nI 0)), (0, .ref s0)]) hx hb dX4_contentCousins_1 rfl hl (by decide) rfl (fun ls hl => ?_)
  refine nr_const (v := 0) hx hb dX4_contentCousins_2 rfl ?_
  refine lv_istore_n (lv' := [(2, .int (nI 0)), (1, .int (nI 0)), (0, .ref s0)]) hx hb dX4_contentCousins_3 rfl hl (by decide) rfl (fun ls hl => ?_)
  refine loop_r (T := Nat) (nL := 3) (fun i => i ≤ 7) (fun i => 7 - i) (fun i => [(0, .ref s0), (1, .int (nI (sm (fun c => bb (me M O c 7 = 0)) i))), (2, .int (nI i))]) ?_ 0 (lv_sub hl [2, 1, 0] rfl) (by omega)
  intro i ls hl hi2 ih1
  have hi2_0 := hi2
  have hi2_0 : i ≤ 7 := hi2_0
  have hl : lv_has ls 3 [(0, .ref s0), (1, .int (nI (sm (fun c => bb (me M O c 7 = 0)) i))), (2, .int (nI i))] := hl
  refine lv_iload_n hx hb dX4_contentCousins_4 rfl (lv_at hl 2 rfl) ?_
  refine nr_bi (v := 7) hx hb dX4_contentCousins_5 (by decide +kernel) ?_
  refine br_ige (tgt := 27) hx hb dX4_contentCousins_7 (by decide) (by omega) (by decide) (fun h3 => ?_) (fun h3 => ?_)
  · skip
    refine lv_iload_n hx hb dX4_contentCousins_27 rfl (lv_at hl 1 rfl) ?_
    exact rret hx hb hr hlk (by have e : i = 7 := (by omega); subst e; rfl) dX4_contentCousins_28
  · skip
    have hm1 := me_le (O := O) h0k (show i < 7 by omega) (Nat.le_refl 7)
    refine lv_aload_n hx hb dX4_contentCousins_10 rfl (lv_at hl 0 rfl) ?_
    refine lv_iload_n hx hb dX4_contentCousins_11 rfl (lv_at hl 2 rfl) ?_
    refine rcVn (As := [.int (nI i)]) (wl := [(s0, .inr (4, [.int (nI bf), .int (nI bs), .int (nI bm), .ref w0, .ref s1])), (s1, .inl (G.2 0, 49, .inl (nA SW))), (w0, .inr (1, fs)), (w3, .inl (G.2 0, 49, .inl (nA (cut 49 148 M)))), (w5, .inl (G.2 0, 2, .inl (nA (cut 2 197 M)))), (w6, .inl (G.2 0, 168, .inl (nA (vv M))))]) ⟨hx, hb, hml, hown, hts⟩ (c_X4_greatestEnvyOf l G s0 bf bs bm w0 s1 SW w3 w5 w6 fs M O i hf2 hf4 hf5 h0k hSW (by omega)) (cwV 1 hts gX4_contentCousins_X4_greatestEnvyOf rfl rfl rfl (by decide +kernel) ⟨Nat.le_of_ble_eq_true rfl, Nat.le_of_ble_eq_true rfl⟩) hK hP hNW 4 0 rfl rfl rfl hl.1 rfl (Nat.le_of_ble_eq_true rfl) dX4_contentCousins_12 ⟨Nat.zero_le _, Nat.zero_le _⟩ ?_
    refine br_ne0 (tgt := 21) hx hb dX4_contentCousins_15 (by decide) (by omega) (fun h4 => ?_) (fun h4 => ?_)
    · skip
      refine nr_inc (d := 1) (v := i + 1) (lv' := [(2, .int (nI (i + 1))), (0, .ref s0), (1, .int (nI (sm (fun c => bb (me M O c 7 = 0)) i)))]) hx hb dX4_contentCousins_21 hl (k := 2) rfl rfl (by decide) rfl (fun ls hl => ?_)
      refine lv_goto (tgt := 4) hx hb dX4_contentCousins_24 (by decide) ?_
      have efx : sm (fun c => bb (me M O c 7 = 0)) (i + 1) = sm (fun c => bb (me M O c 7 = 0)) i := congrArg (fun z => sm (fun c => bb (me M O c 7 = 0)) i + z) (bb_f h4)
      exact ih1 (i + 1) ls (by show lv_has ls 3 [(0, .ref s0), (1, .int (nI (sm (fun c => bb (me M O c 7 = 0)) (i + 1)))), (2, .int (nI (i + 1)))]; rw [efx]; exact lv_sub hl [1, 2, 0] rfl) (by omega) (by omega)
    · skip
      refine nr_inc (d := 1) (v := (sm (fun c => bb (me M O c 7 = 0)) i) + 1) (lv' := [(1, .int (nI ((sm (fun c => bb (me M O c 7 = 0)) i) + 1))), (0, .ref s0), (2, .int (nI i))]) hx hb dX4_contentCousins_18 hl (k := 1) rfl rfl (by decide) rfl (fun ls hl => ?_)
      refine nr_inc (d := 1) (v := i + 1) (lv' := [(2, .int (nI (i + 1))), (1, .int (nI ((sm (fun c => bb (me M O c 7 = 0)) i) + 1))), (0, .ref s0)]) hx hb dX4_contentCousins_21 hl (k := 2) rfl rfl (by decide) rfl (fun ls hl => ?_)
      refine lv_goto (tgt := 4) hx hb dX4_contentCousins_24 (by decide) ?_
      have efx : sm (fun c => bb (me M O c 7 = 0)) (i + 1) = sm (fun c => bb (me M O c 7 = 0)) i + 1 := congrArg (fun z => sm (fun c => bb (me M O c 7 = 0)) i + z) (bb_t h4)
      exact ih1 (i + 1) ls (by show lv_has ls 3 [(0, .ref s0), (1, .int (nI (sm (fun c => bb (me M O c 7 = 0)) (i + 1)))), (2, .int (nI (i + 1)))]; rw [efx]; exact lv_sub hl [2, 1, 0] rfl) (by omega) (by omega))

set_option maxHeartbeats 4000000 in
set_option maxRecDepth 100000 in
theorem c_X4_whyNoTrade (l : Launch) (G : gG) (s0 : Nat) (bf : Nat) (bs : Nat) (bm : Nat) (w0 : Nat) (s1 : Nat) (SW : Nat → Nat) (w3 : Nat) (w5 : Nat) (w6 : Nat) (fs : List Value) (M : Nat → Nat) (O : Nat → Nat) (c : Nat) (d : Nat) (hf2 : fs[2]? = some (.ref w3)) (hf4 : fs[4]? = some (.ref w5)) (hf5 : fs[5]? = some (.ref w6)) (h0k : ok M) (hSW : wOk M O SW) (hc : c < 7) (hd : d < 7) : Met l yX4_whyNoTrade wsX4_whyNoTrade ({ frames := 1, cells := 0, slots := 0, locals := 22 } : Room) (RDn G [(s0, .inr (4, [.int (nI bf), .int (nI bs), .int (nI bm), .ref w0, .ref s1])), (s1, .inl (G.2 0, 49, .inl (nA SW))), (w0, .inr (1, fs)), (w3, .inl (G.2 0, 49, .inl (nA (cut 49 148 M)))), (w5, .inl (G.2 0, 2, .inl (nA (cut 2 197 M)))), (w6, .inl (G.2 0, 168, .inl (nA (vv M))))] [.ref s0, .int (nI c), .int (nI d)]) (QcRead (nI (rs M O c d))) 0 0 noF := rdMn (C := RX4) rfl (by decide) rfl (Nat.le_of_ble_eq_true rfl) (fun pX eX sX mX bX meX cX ls hx hb hr hts hown hlk hml hP hK hNW hl => by
  have hl : lv_has ls 4 [(0, .ref s0), (1, .int (nI c)), (2, .int (nI d))] := hl
  have hF1 : ∀ w ∈ wsX10, w ∈ wsX4_whyNoTrade := fun _ h => (List.mem_cons_of_mem _ (List.mem_append_right _ h))
  have hF4 : ∀ w ∈ wsX40, w ∈ wsX4_whyNoTrade := fun _ h => (List.mem_cons_of_mem _ (List.mem_append_left _ (List.mem_append_right _ h)))
  have hg1 := gr_le h0k hc hd
  have hg2 := gr_le h0k hd hc
  have hs2 := h0k.2.2.2.2.2.2
  have ha1 := sh_le (O := O) (d := c) h0k hc
  have ha2 := sh_le (O := O) (d := d) h0k hc
  have ha3 := sh_le (O := O) (d := c) h0k hd
  have ha4 := sh_le (O := O) (d := d) h0k hd
  refine lv_aload_n hx hb dX4_whyNoTrade_0 rfl (lv_at hl 0 rfl) ?_
  refine va_get (D := G.1) (ci := 4) (v := .ref w0) (C := RX4) (T := TX4) (N := 5) hx hb hts hF4 hown hK hP 0 rfl rfl 3 (by decide) (hts (.fieldLink RX4 15 "CousinShares$Shares" "harvest" "LCousinShares$Harvest;") (List.mem_of_getElem? (i := 1) rfl)) (fun _ h9 => h9) rfl dX4_whyNoTrade_1 ?_
  refine va_get (D := G.1) (ci := 1) (v := .ref w5) (C := RX1) (T := TX1) (N := 9) hx hb hts hF1 hown hK hP 2 rfl rfl 4 (by decide) (hts (.fieldLink RX4 55 "CousinShares$Harvest" "settings" "[I") (List.mem_of_getElem? (i := 2) rfl)) (fun _ h9 => h9) hf4 dX4_whyNoTrade_4 ?_
  refine nr_const (v := 1) hx hb dX4_whyNoTrade_7 rfl ?_
  refine nr_ald hx hb hK hP 4 rfl (by omega) (by decide) dX4_whyNoTrade_8 ?_
  refine nr_top (y := nI (M 198)) (rfl) ?_
  refine lv_istore_n (lv' := [(3, .int (nI (M 198))), (0, .ref s0), (1, .int (nI c)), (2, .int (nI d))]) hx hb dX4_whyNoTrade_9 rfl hl (by decide) rfl (fun ls hl => ?_)
  refine lv_aload_n hx hb dX4_whyNoTrade_10 rfl (lv_at hl 1 rfl) ?_
  refine va_get (D := G.1) (ci := 4) (v := .ref w0) (C := RX4) (T := TX4) (N := 5) hx hb hts hF4 hown hK hP 0 rfl rfl 3 (by decide) (hts (.fieldLink RX4 15 "CousinShares$Shares" "harvest" "LCousinShares$Harvest;") (List.mem_of_getElem? (i := 1) rfl)) (fun _ h9 => h9) rfl dX4_whyNoTrade_11 ?_
  refine lv_iload_n hx hb dX4_whyNoTrade_14 rfl (lv_at hl 2 rfl) ?_
  refine lv_iload_n hx hb dX4_whyNoTrade_15 rfl (lv_at hl 3 rfl) ?_
  refine rcV (As := [.int (nI c), .int (nI d)]) (wl := [(w0, .inr (1, fs)), (w3, .inl (G.2 0, 49, .inl (nA (cut 49 148 M))))]) ⟨hx, hb, hml, hown, hts⟩ (c_X1_grudgeOf l G w0 w3 fs M c d hf2 (by omega) (by omega)) (cwV 2 hts gX4_whyNoTrade_X1_grudgeOf rfl rfl rfl (by decide +kernel) ⟨Nat.le_of_ble_eq_true rfl, Nat.le_of_ble_eq_true rfl⟩) hK (hP.sub [2, 3] rfl) 1 0 rfl rfl rfl hl.1 rfl (Nat.le_of_ble_eq_true rfl) dX4_whyNoTrade_16 ⟨Nat.zero_le _, Nat.zero_le _⟩ ?_
  refine lv_iload_n hx hb dX4_whyNoTrade_19 rfl (lv_at hl 0 rfl) ?_
  refine br_ige (tgt := 36) hx hb dX4_whyNoTrade_20 (by decide) (by omega) (by omega) (fun h1 => ?_) (fun h1 => ?_)
  · skip
    refine nr_const (v := 1) hx hb dX4_whyNoTrade_36 rfl ?_
    exact rret hx hb hr hlk (congrArg nI (by unfold rs; (repeat' split) <;> first | rfl | omega)) dX4_whyNoTrade_37
  · skip
    refine lv_aload_n hx hb dX4_whyNoTrade_23 rfl (lv_at hl 1 rfl) ?_
    refine va_get (D := G.1) (ci := 4) (v := .ref w0) (C := RX4) (T := TX4) (N := 5) hx hb hts hF4 hown hK hP 0 rfl rfl 3 (by decide) (hts (.fieldLink RX4 15 "CousinShares$Shares" "harvest" "LCousinShares$Harvest;") (List.mem_of_getElem? (i := 1) rfl)) (fun _ h9 => h9) rfl dX4_whyNoTrade_24 ?_
    refine lv_iload_n hx hb dX4_whyNoTrade_27 rfl (lv_at hl 3 rfl) ?_
    refine lv_iload_n hx hb dX4_whyNoTrade_28 rfl (lv_at hl 2 rfl) ?_
    refine rcV (As := [.int (nI d), .int (nI c)]) (wl := [(w0, .inr (1, fs)), (w3, .inl (G.2 0, 49, .inl (nA (cut 49 148 M))))]) ⟨hx, hb, hml, hown, hts⟩ (c_X1_grudgeOf l G w0 w3 fs M d c hf2 (by omega) (by omega)) (cwV 2 hts gX4_whyNoTrade_X1_grudgeOf rfl rfl rfl (by decide +kernel) ⟨Nat.le_of_ble_eq_true rfl, Nat.le_of_ble_eq_true rfl⟩) hK (hP.sub [2, 3] rfl) 1 0 rfl rfl rfl hl.1 rfl (Nat.le_of_ble_eq_true rfl) dX4_whyNoTrade_29 ⟨Nat.zero_le _, Nat.zero_le _⟩ ?_
    refine lv_iload_n hx hb dX4_whyNoTrade_32 rfl (lv_at hl 0 rfl) ?_
    refine br_ilt (tgt := 38) hx hb dX4_whyNoTrade_33 (by decide) (by omega) (by omega) (fun h2 => ?_) (fun h2 => ?_)
    · skip
      refine lv_aload_n hx hb dX4_whyNoTrade_38 rfl (lv_at hl 1 rfl) ?_
      refine lv_iload_n hx hb dX4_whyNoTrade_39 rfl (lv_at hl 2 rfl) ?_
      refine lv_iload_n hx hb dX4_whyNoTrade_40 rfl (lv_at hl 3 rfl) ?_
      refine rcVn (As := [.int (nI c), .int (nI d)]) (wl := [(s0, .inr (4, [.int (nI bf), .int (nI bs), .int (nI bm), .ref w0, .ref s1])), (s1, .inl (G.2 0, 49, .inl (nA SW))), (w0, .inr (1, fs)), (w3, .inl (G.2 0, 49, .inl (nA (cut 49 148 M)))), (w5, .inl (G.2 0, 2, .inl (nA (cut 2 197 M)))), (w6, .inl (G.2 0, 168, .inl (nA (vv M))))]) ⟨hx, hb, hml, hown, hts⟩ (c_X4_worthOf l G s0 bf bs bm w0 s1 SW w3 w5 w6 fs M O c d hf2 hf4 hf5 h0k hSW (by omega) (by omega)) (cwV 2 hts gX4_whyNoTrade_X4_worthOf rfl rfl rfl (by decide +kernel) ⟨Nat.le_of_ble_eq_true rfl, Nat.le_of_ble_eq_true rfl⟩) hK hP hNW 4 0 rfl rfl rfl hl.1 rfl (Nat.le_of_ble_eq_true rfl) dX4_whyNoTrade_41 ⟨Nat.zero_le _, Nat.zero_le _⟩ ?_
      refine lv_aload_n hx hb dX4_whyNoTrade_44 rfl (lv_at hl 1 rfl) ?_
      refine lv_iload_n hx hb dX4_whyNoTrade_45 rfl (lv_at hl 2 rfl) ?_
      refine lv_iload_n hx hb dX4_whyNoTrade_46 rfl (lv_at hl 2 rfl) ?_
      refine rcVn (As := [.int (nI c), .int (nI c)]) (wl := [(s0, .inr (4, [.int (nI bf), .int (nI bs), .int (nI bm), .ref w0, .ref s1])), (s1, .inl (G.2 0, 49, .inl (nA SW))), (w0, .inr (1, fs)), (w3, .inl (G.2 0, 49, .inl (nA (cut 49 148 M)))), (w5, .inl (G.2 0, 2, .inl (nA (cut 2 197 M)))), (w6, .inl (G.2 0, 168, .inl (nA (vv M))))]) ⟨hx, hb, hml, hown, hts⟩ (c_X4_worthOf l G s0 bf bs bm w0 s1 SW w3 w5 w6 fs M O c c hf2 hf4 hf5 h0k hSW (by omega) (by omega)) (cwV 2 hts gX4_whyNoTrade_X4_worthOf rfl rfl rfl (by decide +kernel) ⟨Nat.le_of_ble_eq_true rfl, Nat.le_of_ble_eq_true rfl⟩) hK hP hNW 4 0 rfl rfl rfl hl.1 rfl (Nat.le_of_ble_eq_true rfl) dX4_whyNoTrade_47 ⟨Nat.zero_le _, Nat.zero_le _⟩ ?_
      refine br_igt (tgt := 55) hx hb dX4_whyNoTrade_50 (by decide) (by omega) (by omega) (fun h3 => ?_) (fun h3 => ?_)
      · skip
        refine lv_aload_n hx hb dX4_whyNoTrade_55 rfl (lv_at hl 1 rfl) ?_
        refine lv_iload_n hx hb dX4_whyNoTrade_56 rfl (lv_at hl 3 rfl) ?_
        refine lv_iload_n hx hb dX4_whyNoTrade_57 rfl (lv_at hl 2 rfl) ?_
        refine rcVn (As := [.int (nI d), .int (nI c)]) (wl := [(s0, .inr (4, [.int (nI bf), .int (nI bs), .int (nI bm), .ref w0, .ref s1])), (s1, .inl (G.2 0, 49, .inl (nA SW))), (w0, .inr (1, fs)), (w3, .inl (G.2 0, 49, .inl (nA (cut 49 148 M)))), (w5, .inl (G.2 0, 2, .inl (nA (cut 2 197 M)))), (w6, .inl (G.2 0, 168, .inl (nA (vv M))))]) ⟨hx, hb, hml, hown, hts⟩ (c_X4_worthOf l G s0 bf bs bm w0 s1 SW w3 w5 w6 fs M O d c hf2 hf4 hf5 h0k hSW (by omega) (by omega)) (cwV 2 hts gX4_whyNoTrade_X4_worthOf rfl rfl rfl (by decide +kernel) ⟨Nat.le_of_ble_eq_true rfl, Nat.le_of_ble_eq_true rfl⟩) hK hP hNW 4 0 rfl rfl rfl hl.1 rfl (Nat.le_of_ble_eq_true rfl) dX4_whyNoTrade_58 ⟨Nat.zero_le _, Nat.zero_le _⟩ ?_
        refine lv_aload_n hx hb dX4_whyNoTrade_61 rfl (lv_at hl 1 rfl) ?_
        refine lv_iload_n hx hb dX4_whyNoTrade_62 rfl (lv_at hl 3 rfl) ?_
        refine lv_iload_n hx hb dX4_whyNoTrade_63 rfl (lv_at hl 3 rfl) ?_
        refine rcVn (As := [.int (nI d), .int (nI d)]) (wl := [(s0, .inr (4, [.int (nI bf), .int (nI bs), .int (nI bm), .ref w0, .ref s1])), (s1, .inl (G.2 0, 49, .inl (nA SW))), (w0, .inr (1, fs)), (w3, .inl (G.2 0, 49, .inl (nA (cut 49 148 M)))), (w5, .inl (G.2 0, 2, .inl (nA (cut 2 197 M)))), (w6, .inl (G.2 0, 168, .inl (nA (vv M))))]) ⟨hx, hb, hml, hown, hts⟩ (c_X4_worthOf l G s0 bf bs bm w0 s1 SW w3 w5 w6 fs M O d d hf2 hf4 hf5 h0k hSW (by omega) (by omega)) (cwV 2 hts gX4_whyNoTrade_X4_worthOf rfl rfl rfl (by decide +kernel) ⟨Nat.le_of_ble_eq_true rfl, Nat.le_of_ble_eq_true rfl⟩) hK hP hNW 4 0 rfl rfl rfl hl.1 rfl (Nat.le_of_ble_eq_true rfl) dX4_whyNoTrade_64 ⟨Nat.zero_le _, Nat.zero_le _⟩ ?_
        refine br_igt (tgt := 72) hx hb dX4_whyNoTrade_67 (by decide) (by omega) (by omega) (fun h4 => ?_) (fun h4 => ?_)
        · skip
          refine nr_const (v := 0) hx hb dX4_whyNoTrade_72 rfl ?_
          exact rret hx hb hr hlk (congrArg nI (by unfold rs; (repeat' split) <;> first | rfl | omega)) dX4_whyNoTrade_73
        · skip
          refine nr_const (v := 3) hx hb dX4_whyNoTrade_70 rfl ?_
          exact rret hx hb hr hlk (congrArg nI (by unfold rs; (repeat' split) <;> first | rfl | omega)) dX4_whyNoTrade_71
      · skip
        refine nr_const (v := 2) hx hb dX4_whyNoTrade_53 rfl ?_
        exact rret hx hb hr hlk (congrArg nI (by unfold rs; (repeat' split) <;> first | rfl | omega)) dX4_whyNoTrade_54
    · skip
      refine nr_const (v := 1) hx hb dX4_whyNoTrade_36 rfl ?_
      exact rret hx hb hr hlk (congrArg nI (by unfold rs; (repeat' split) <;> first | rfl | omega)) dX4_whyNoTrade_37)

set_option maxHeartbeats 4000000 in
set_option maxRecDepth 100000 in
theorem c_X4_tradingPairs (l : Launch) (G : gG) (s0 : Nat) (bf : Nat) (bs : Nat) (bm : Nat) (w0 : Nat) (s1 : Nat) (SW : Nat → Nat) (w3 : Nat) (w5 : Nat) (w6 : Nat) (fs : List Value) (M : Nat → Nat) (O : Nat → Nat) (hf2 : fs[2]? = some (.ref w3)) (hf4 : fs[4]? = some (.ref w5)) (hf5 : fs[5]? = some (.ref w6)) (h0k : ok M) (hSW : wOk M O SW) : Met l yX4_tradingPairs wsX4_tradingPairs ({ frames := 2, cells := 0, slots := 0, locals := 45 } : Room) (RDn G [(s0, .inr (4, [.int (nI bf), .int (nI bs), .int (nI bm), .ref w0, .ref s1])), (s1, .inl (G.2 0, 49, .inl (nA SW))), (w0, .inr (1, fs)), (w3, .inl (G.2 0, 49, .inl (nA (cut 49 148 M)))), (w5, .inl (G.2 0, 2, .inl (nA (cut 2 197 M)))), (w6, .inl (G.2 0, 168, .inl (nA (vv M))))] [.ref s0]) (QcRead (nI (td M O 49))) 0 0 noF := rdMn (C := RX4) rfl (by decide) rfl (Nat.le_of_ble_eq_true rfl) (fun pX eX sX mX bX meX cX ls hx hb hr hts hown hlk hml hP hK hNW hl => by
  have hl : lv_has ls 4 [(0, .ref s0)] := hl
  refine nr_const (v := 0) hx hb dX4_tradingPairs_0 rfl ?_
  refine lv_istore_n (lv' := [(1, .int (nI 0)), (0, .ref s0)]) hx hb dX4_tradingPairs_1 rfl hl (by decide) rfl (fun ls hl => ?_)
  refine nr_const (v := 0) hx hb dX4_tradingPairs_2 rfl ?_
  refine lv_istore_n (lv' := [(2, .int (nI 0)), (1, .int (nI 0)), (0, .ref s0)]) hx hb dX4_tradingPairs_3 rfl hl (by decide) rfl (fun ls hl => ?_)
  refine loop_r (T := Nat) (nL := 4) (fun a => a ≤ 7) (fun a => 7 - a) (fun a => [(0, .ref s0), (1, .int (nI (td M O (7 * a)))), (2, .int (nI a))]) ?_ 0 (lv_sub hl [2, 1, 0] rfl) (by omega)
  intro a ls hl hi2 ih1
  have hi2_0 := hi2
  have hi2_0 : a ≤ 7 := hi2_0
  have hl : lv_has ls 4 [(0, .ref s0), (1, .int (nI (td M O (7 * a)))), (2, .int (nI a))] := hl
  refine lv_iload_n hx hb dX4_tradingPairs_4 rfl (lv_at hl 2 rfl) ?_
  refine nr_bi (v := 7) hx hb dX4_tradingPairs_5 (by decide +kernel) ?_
  refine br_ige (tgt := 44) hx hb dX4_tradingPairs_7 (by decide) (by omega) (by decide) (fun h3 => ?_) (fun h3 => ?_)
  · skip
    refine lv_iload_n hx hb dX4_tradingPairs_44 rfl (lv_at hl 1 rfl) ?_
    exact rret hx hb hr hlk (by have e : a = 7 := (by omega); subst e; rfl) dX4_tradingPairs_45
  · skip
    refine lv_iload_n hx hb dX4_tradingPairs_10 rfl (lv_at hl 2 rfl) ?_
    refine nr_const (v := 1) hx hb dX4_tradingPairs_11 rfl ?_
    refine nr_add hx hb dX4_tradingPairs_12 ?_
    refine lv_istore_n (lv' := [(3, .int (nI (a + 1))), (0, .ref s0), (1, .int (nI (td M O (7 * a)))), (2, .int (nI a))]) hx hb dX4_tradingPairs_13 rfl hl (by decide) rfl (fun ls hl => ?_)
    rw [← td_k M O (show a < 7 by omega) (Nat.le_refl (a + 1))] at hl
    refine loop_r (T := Nat) (nL := 4) (fun b => a < b ∧ b ≤ 7) (fun b => 7 - b) (fun b => [(0, .ref s0), (1, .int (nI (td M O (7 * a + b)))), (2, .int (nI a)), (3, .int (nI b))]) ?_ (a + 1) (lv_sub hl [1, 2, 3, 0] rfl) ⟨by omega, by omega⟩
    intro b ls hl hi5 ih4
    obtain ⟨hi5_0, hi5_1⟩ := hi5
    have hi5_0 : a < b := hi5_0
    have hi5_1 : b ≤ 7 := hi5_1
    have hl : lv_has ls 4 [(0, .ref s0), (1, .int (nI (td M O (7 * a + b)))), (2, .int (nI a)), (3, .int (nI b))] := hl
    refine lv_iload_n hx hb dX4_tradingPairs_14 rfl (lv_at hl 3 rfl) ?_
    refine nr_bi (v := 7) hx hb dX4_tradingPairs_15 (by decide +kernel) ?_
    refine br_ige (tgt := 38) hx hb dX4_tradingPairs_17 (by decide) (by omega) (by decide) (fun h6 => ?_) (fun h6 => ?_)
    · skip
      refine nr_inc (d := 1) (v := a + 1) (lv' := [(2, .int (nI (a + 1))), (0, .ref s0), (1, .int (nI (td M O (7 * a + b)))), (3, .int (nI b))]) hx hb dX4_tradingPairs_38 hl (k := 2) rfl rfl (by decide) rfl (fun ls hl => ?_)
      refine lv_goto (tgt := 4) hx hb dX4_tradingPairs_41 (by decide) ?_
      have efx : td M O (7 * (a + 1)) = td M O (7 * a + b) := congrArg (td M O) (by omega)
      exact ih1 (a + 1) ls (by show lv_has ls 4 [(0, .ref s0), (1, .int (nI (td M O (7 * (a + 1))))), (2, .int (nI (a + 1)))]; rw [efx]; exact lv_sub hl [1, 2, 0] rfl) (by omega) (by omega)
    · skip
      have hrs := rs_lt M O a b
      refine lv_aload_n hx hb dX4_tradingPairs_20 rfl (lv_at hl 0 rfl) ?_
      refine lv_iload_n hx hb dX4_tradingPairs_21 rfl (lv_at hl 2 rfl) ?_
      refine lv_iload_n hx hb dX4_tradingPairs_22 rfl (lv_at hl 3 rfl) ?_
      refine rcVn (As := [.int (nI a), .int (nI b)]) (wl := [(s0, .inr (4, [.int (nI bf), .int (nI bs), .int (nI bm), .ref w0, .ref s1])), (s1, .inl (G.2 0, 49, .inl (nA SW))), (w0, .inr (1, fs)), (w3, .inl (G.2 0, 49, .inl (nA (cut 49 148 M)))), (w5, .inl (G.2 0, 2, .inl (nA (cut 2 197 M)))), (w6, .inl (G.2 0, 168, .inl (nA (vv M))))]) ⟨hx, hb, hml, hown, hts⟩ (c_X4_whyNoTrade l G s0 bf bs bm w0 s1 SW w3 w5 w6 fs M O a b hf2 hf4 hf5 h0k hSW (by omega) (by omega)) (cwV 2 hts gX4_tradingPairs_X4_whyNoTrade rfl rfl rfl (by decide +kernel) ⟨Nat.le_of_ble_eq_true rfl, Nat.le_of_ble_eq_true rfl⟩) hK hP hNW 4 0 rfl rfl rfl hl.1 rfl (Nat.le_of_ble_eq_true rfl) dX4_tradingPairs_23 ⟨Nat.zero_le _, Nat.zero_le _⟩ ?_
      refine br_ne0 (tgt := 32) hx hb dX4_tradingPairs_26 (by decide) (by omega) (fun h7 => ?_) (fun h7 => ?_)
      · skip
        refine nr_inc (d := 1) (v := b + 1) (lv' := [(3, .int (nI (b + 1))), (0, .ref s0), (1, .int (nI (td M O (7 * a + b)))), (2, .int (nI a))]) hx hb dX4_tradingPairs_32 hl (k := 3) rfl rfl (by decide) rfl (fun ls hl => ?_)
        refine lv_goto (tgt := 14) hx hb dX4_tradingPairs_35 (by decide) ?_
        have efx : td M O (7 * a + (b + 1)) = td M O (7 * a + b) := (td_s M O (by omega) (by omega)).trans (congrArg (fun z => td M O (7 * a + b) + z) (bb_f h7))
        exact ih4 (b + 1) ls (by show lv_has ls 4 [(0, .ref s0), (1, .int (nI (td M O (7 * a + (b + 1))))), (2, .int (nI a)), (3, .int (nI (b + 1)))]; rw [efx]; exact lv_sub hl [1, 2, 3, 0] rfl) ⟨by omega, by omega⟩ (by omega)
      · skip
        refine nr_inc (d := 1) (v := (td M O (7 * a + b)) + 1) (lv' := [(1, .int (nI ((td M O (7 * a + b)) + 1))), (0, .ref s0), (2, .int (nI a)), (3, .int (nI b))]) hx hb dX4_tradingPairs_29 hl (k := 1) rfl rfl (by decide) rfl (fun ls hl => ?_)
        refine nr_inc (d := 1) (v := b + 1) (lv' := [(3, .int (nI (b + 1))), (1, .int (nI ((td M O (7 * a + b)) + 1))), (0, .ref s0), (2, .int (nI a))]) hx hb dX4_tradingPairs_32 hl (k := 3) rfl rfl (by decide) rfl (fun ls hl => ?_)
        refine lv_goto (tgt := 14) hx hb dX4_tradingPairs_35 (by decide) ?_
        have efx : td M O (7 * a + (b + 1)) = td M O (7 * a + b) + 1 := (td_s M O (by omega) (by omega)).trans (congrArg (fun z => td M O (7 * a + b) + z) (bb_t h7))
        exact ih4 (b + 1) ls (by show lv_has ls 4 [(0, .ref s0), (1, .int (nI (td M O (7 * a + (b + 1))))), (2, .int (nI a)), (3, .int (nI (b + 1)))]; rw [efx]; exact lv_sub hl [2, 1, 3, 0] rfl) ⟨by omega, by omega⟩ (by omega))

set_option maxHeartbeats 4000000 in
set_option maxRecDepth 100000 in
theorem c_X4_enviesAfterTrade (l : Launch) (G : gG) (s0 : Nat) (bf : Nat) (bs : Nat) (bm : Nat) (w0 : Nat) (s1 : Nat) (SW : Nat → Nat) (w3 : Nat) (w5 : Nat) (w6 : Nat) (fs : List Value) (M : Nat → Nat) (O : Nat → Nat) (a : Nat) (b : Nat) (hf2 : fs[2]? = some (.ref w3)) (hf4 : fs[4]? = some (.ref w5)) (hf5 : fs[5]? = some (.ref w6)) (h0k : ok M) (hSW : wOk M O SW) (ha : a < 7) (hb7 : b < 7) (sz : Nat) : Met l yX4_enviesAfterTrade wsX4_enviesAfterTrade ({ frames := 4, cells := 0, slots := 0, locals := 109 } : Room) (WRn G [(s0, .inr (4, [.int (nI bf), .int (nI bs), .int (nI bm), .ref w0, .ref s1])), (s1, .inl (G.2 0, 49, .inl (nA SW))), (w0, .inr (1, fs)), (w3, .inl (G.2 0, 49, .inl (nA (cut 49 148 M)))), (w5, .inl (G.2 0, 2, .inl (nA (cut 2 197 M)))), (w6, .inl (G.2 0, 168, .inl (nA (vv M))))] sz [.ref s0, .int (nI a), .int (nI b)]) (va_Qi (fun (r : Int32) (_ : Unit) => r = nI (es M (swO O a b) 127 127) ∧ (True)) (WB G (va_A [(s0, .inr (4, [.int (nI bf), .int (nI bs), .int (nI bm), .ref w0, .ref s1])), (s1, .inl (G.2 0, 49, .inl (nA SW))), (w0, .inr (1, fs)), (w3, .inl (G.2 0, 49, .inl (nA (cut 49 148 M)))), (w5, .inl (G.2 0, 2, .inl (nA (cut 2 197 M)))), (w6, .inl (G.2 0, 168, .inl (nA (vv M))))] sz) (fun _ : Unit => [(s0, .inr (4, [.int (nI bf), .int (nI bs), .int (nI bm), .ref w0, .ref s1])), (s1, .inl (G.2 0, 49, .inl (nA SW))), (w0, .inr (1, fs)), (w3, .inl (G.2 0, 49, .inl (nA (cut 49 148 M)))), (w5, .inl (G.2 0, 2, .inl (nA (cut 2 197 M)))), (w6, .inl (G.2 0, 168, .inl (nA (vv M))))])) (va_A [(s0, .inr (4, [.int (nI bf), .int (nI bs), .int (nI bm), .ref w0, .ref s1])), (s1, .inl (G.2 0, 49, .inl (nA SW))), (w0, .inr (1, fs)), (w3, .inl (G.2 0, 49, .inl (nA (cut 49 148 M)))), (w5, .inl (G.2 0, 2, .inl (nA (cut 2 197 M)))), (w6, .inl (G.2 0, 168, .inl (nA (vv M))))] sz)) 0 0 (va_A [(s0, .inr (4, [.int (nI bf), .int (nI bs), .int (nI bm), .ref w0, .ref s1])), (s1, .inl (G.2 0, 49, .inl (nA SW))), (w0, .inr (1, fs)), (w3, .inl (G.2 0, 49, .inl (nA (cut 49 148 M)))), (w5, .inl (G.2 0, 2, .inl (nA (cut 2 197 M)))), (w6, .inl (G.2 0, 168, .inl (nA (vv M))))] sz) := wrMn (Qf := fun AA => va_Qi (fun (r : Int32) (_ : Unit) => r = nI (es M (swO O a b) 127 127) ∧ (True)) (WB G AA (fun _ : Unit => [(s0, .inr (4, [.int (nI bf), .int (nI bs), .int (nI bm), .ref w0, .ref s1])), (s1, .inl (G.2 0, 49, .inl (nA SW))), (w0, .inr (1, fs)), (w3, .inl (G.2 0, 49, .inl (nA (cut 49 148 M)))), (w5, .inl (G.2 0, 2, .inl (nA (cut 2 197 M)))), (w6, .inl (G.2 0, 168, .inl (nA (vv M))))])) AA) (C := RX4) rfl (by decide) rfl (Nat.le_of_ble_eq_true rfl) (fun pX eX sX mX bX meX cX ls AA hx hb hr hts hown hlk hml hin hP hK hNW hD hAA hS hl => by
  have hl : lv_has ls 4 [(0, .ref s0), (1, .int (nI a)), (2, .int (nI b))] := hl
  refine lv_aload_n hx hb dX4_enviesAfterTrade_0 rfl (lv_at hl 0 rfl) ?_
  refine lv_iload_n hx hb dX4_enviesAfterTrade_1 rfl (lv_at hl 1 rfl) ?_
  refine lv_iload_n hx hb dX4_enviesAfterTrade_2 rfl (lv_at hl 2 rfl) ?_
  refine wcVvn (As := [.int (nI a), .int (nI b)]) (ws := [(s0, .inr (4, [.int (nI bf), .int (nI bs), .int (nI bm), .ref w0, .ref s1])), (s1, .inl (G.2 0, 49, .inl (nA SW))), (w0, .inr (1, fs)), (w3, .inl (G.2 0, 49, .inl (nA (cut 49 148 M)))), (w5, .inl (G.2 0, 2, .inl (nA (cut 2 197 M)))), (w6, .inl (G.2 0, 168, .inl (nA (vv M))))]) (wc := [(s0, .inr (4, [.int (nI bf), .int (nI bs), .int (nI bm), .ref w0, .ref s1])), (s1, .inl (G.2 0, 49, .inl (nA SW))), (w0, .inr (1, fs)), (w3, .inl (G.2 0, 49, .inl (nA (cut 49 148 M)))), (w5, .inl (G.2 0, 2, .inl (nA (cut 2 197 M)))), (w6, .inl (G.2 0, 168, .inl (nA (vv M))))]) (wr := []) (wn := fun _ => [(s0, .inr (4, [.int (nI bf), .int (nI bs), .int (nI bm), .ref w0, .ref s1])), (s1, .inl (G.2 0, 49, .inl (nA (xW SW a b 7)))), (w0, .inr (1, fs)), (w3, .inl (G.2 0, 49, .inl (nA (cut 49 148 M)))), (w5, .inl (G.2 0, 2, .inl (nA (cut 2 197 M)))), (w6, .inl (G.2 0, 168, .inl (nA (vv M))))]) ⟨hx, hb, hml, hown, hts⟩ (c_X4_exchange l G s0 bf bs bm w0 s1 SW w3 w5 w6 fs M a b hf2 hf4 hf5 (by omega) (by omega) _) (cwV 2 hts gX4_enviesAfterTrade_X4_exchange rfl rfl rfl (by decide +kernel) ⟨Nat.le_of_ble_eq_true rfl, Nat.le_of_ble_eq_true rfl⟩) hK hNW hP hD hS hAA [0, 1, 2, 3, 4, 5] [] [0, 1, 2, 3, 4, 5] rfl rfl rfl rfl (by decide) rfl (fun _ => rfl) 4 0 rfl rfl rfl hl.1 rfl (Nat.le_of_ble_eq_true rfl) dX4_enviesAfterTrade_3 ⟨by first | exact Nat.le_of_ble_eq_true rfl | omega, by first | exact Nat.le_of_ble_eq_true rfl | omega⟩ (fun uu H locs hw1 hP hD hS => ?_)
  have hP : va_P G.1 vwCl [(s0, .inr (4, [.int (nI bf), .int (nI bs), .int (nI bm), .ref w0, .ref s1])), (s1, .inl (G.2 0, 49, .inl (nA (xW SW a b 7)))), (w0, .inr (1, fs)), (w3, .inl (G.2 0, 49, .inl (nA (cut 49 148 M)))), (w5, .inl (G.2 0, 2, .inl (nA (cut 2 197 M)))), (w6, .inl (G.2 0, 168, .inl (nA (vv M))))] _ := hP
  have hD : va_D AA [(s0, .inr (4, [.int (nI bf), .int (nI bs), .int (nI bm), .ref w0, .ref s1])), (s1, .inl (G.2 0, 49, .inl (nA (xW SW a b 7)))), (w0, .inr (1, fs)), (w3, .inl (G.2 0, 49, .inl (nA (cut 49 148 M)))), (w5, .inl (G.2 0, 2, .inl (nA (cut 2 197 M)))), (w6, .inl (G.2 0, 168, .inl (nA (vv M))))] := hD
  refine lv_aload_n hx hb dX4_enviesAfterTrade_6 rfl (lv_at hl 0 rfl) ?_
  refine nr_bi (v := 127) hx hb dX4_enviesAfterTrade_7 (by decide +kernel) ?_
  refine rcVn (As := [.int (nI 127)]) (wl := [(s0, .inr (4, [.int (nI bf), .int (nI bs), .int (nI bm), .ref w0, .ref s1])), (s1, .inl (G.2 0, 49, .inl (nA (xW SW a b 7)))), (w0, .inr (1, fs)), (w3, .inl (G.2 0, 49, .inl (nA (cut 49 148 M)))), (w5, .inl (G.2 0, 2, .inl (nA (cut 2 197 M)))), (w6, .inl (G.2 0, 168, .inl (nA (vv M))))]) ⟨hx, hb, hml, hown, hts⟩ (c_X4_enviesAmong l G s0 bf bs bm w0 s1 (xW SW a b 7) w3 w5 w6 fs M (swO O a b) 127 hf2 hf4 hf5 h0k (xW_ok hSW ha hb7) (by omega)) (cwV 1 hts gX4_enviesAfterTrade_X4_enviesAmong rfl rfl rfl (by decide +kernel) ⟨Nat.le_of_ble_eq_true rfl, Nat.le_of_ble_eq_true rfl⟩) hK hP hNW 4 0 rfl rfl rfl hl.1 rfl (Nat.le_of_ble_eq_true rfl) dX4_enviesAfterTrade_9 ⟨Nat.zero_le _, Nat.zero_le _⟩ ?_
  refine lv_istore_n (lv' := [(3, .int (nI (es M (swO O a b) 127 127))), (0, .ref s0), (1, .int (nI a)), (2, .int (nI b))]) hx hb dX4_enviesAfterTrade_12 rfl hl (by decide) rfl (fun ls hl => ?_)
  refine lv_aload_n hx hb dX4_enviesAfterTrade_13 rfl (lv_at hl 1 rfl) ?_
  refine lv_iload_n hx hb dX4_enviesAfterTrade_14 rfl (lv_at hl 2 rfl) ?_
  refine lv_iload_n hx hb dX4_enviesAfterTrade_15 rfl (lv_at hl 3 rfl) ?_
  refine wcVvn (As := [.int (nI a), .int (nI b)]) (ws := [(s0, .inr (4, [.int (nI bf), .int (nI bs), .int (nI bm), .ref w0, .ref s1])), (s1, .inl (G.2 0, 49, .inl (nA (xW SW a b 7)))), (w0, .inr (1, fs)), (w3, .inl (G.2 0, 49, .inl (nA (cut 49 148 M)))), (w5, .inl (G.2 0, 2, .inl (nA (cut 2 197 M)))), (w6, .inl (G.2 0, 168, .inl (nA (vv M))))]) (wc := [(s0, .inr (4, [.int (nI bf), .int (nI bs), .int (nI bm), .ref w0, .ref s1])), (s1, .inl (G.2 0, 49, .inl (nA (xW SW a b 7)))), (w0, .inr (1, fs)), (w3, .inl (G.2 0, 49, .inl (nA (cut 49 148 M)))), (w5, .inl (G.2 0, 2, .inl (nA (cut 2 197 M)))), (w6, .inl (G.2 0, 168, .inl (nA (vv M))))]) (wr := []) (wn := fun _ => [(s0, .inr (4, [.int (nI bf), .int (nI bs), .int (nI bm), .ref w0, .ref s1])), (s1, .inl (G.2 0, 49, .inl (nA (xW (xW SW a b 7) a b 7)))), (w0, .inr (1, fs)), (w3, .inl (G.2 0, 49, .inl (nA (cut 49 148 M)))), (w5, .inl (G.2 0, 2, .inl (nA (cut 2 197 M)))), (w6, .inl (G.2 0, 168, .inl (nA (vv M))))]) ⟨hx, hb, hml, hown, hts⟩ (c_X4_exchange l G s0 bf bs bm w0 s1 (xW SW a b 7) w3 w5 w6 fs M a b hf2 hf4 hf5 (by omega) (by omega) _) (cwV 2 hts gX4_enviesAfterTrade_X4_exchange rfl rfl rfl (by decide +kernel) ⟨Nat.le_of_ble_eq_true rfl, Nat.le_of_ble_eq_true rfl⟩) hK hNW hP hD hS hAA [0, 1, 2, 3, 4, 5] [] [0, 1, 2, 3, 4, 5] rfl rfl rfl rfl (by decide) rfl (fun _ => rfl) 4 0 rfl rfl rfl hl.1 rfl (Nat.le_of_ble_eq_true rfl) dX4_enviesAfterTrade_16 ⟨by first | exact Nat.le_of_ble_eq_true rfl | omega, by first | exact Nat.le_of_ble_eq_true rfl | omega⟩ (fun uu H locs hw3 hP hD hS => ?_)
  have hP : va_P G.1 vwCl [(s0, .inr (4, [.int (nI bf), .int (nI bs), .int (nI bm), .ref w0, .ref s1])), (s1, .inl (G.2 0, 49, .inl (nA (xW (xW SW a b 7) a b 7)))), (w0, .inr (1, fs)), (w3, .inl (G.2 0, 49, .inl (nA (cut 49 148 M)))), (w5, .inl (G.2 0, 2, .inl (nA (cut 2 197 M)))), (w6, .inl (G.2 0, 168, .inl (nA (vv M))))] _ := hP
  have hD : va_D AA [(s0, .inr (4, [.int (nI bf), .int (nI bs), .int (nI bm), .ref w0, .ref s1])), (s1, .inl (G.2 0, 49, .inl (nA (xW (xW SW a b 7) a b 7)))), (w0, .inr (1, fs)), (w3, .inl (G.2 0, 49, .inl (nA (cut 49 148 M)))), (w5, .inl (G.2 0, 2, .inl (nA (cut 2 197 M)))), (w6, .inl (G.2 0, 168, .inl (nA (vv M))))] := hD
  refine lv_iload_n hx hb dX4_enviesAfterTrade_19 rfl (lv_at hl 0 rfl) ?_
  rw [xW_2 SW ha hb7] at hP hD
  exact wret hx hb hr hlk hK hS (()) hP hD (⟨rfl, trivial⟩) dX4_enviesAfterTrade_20)

set_option maxHeartbeats 4000000 in
set_option maxRecDepth 100000 in
theorem c_X4_findBestTrade (l : Launch) (G : gG) (s0 : Nat) (bf : Nat) (bs : Nat) (bm : Nat) (w0 : Nat) (s1 : Nat) (SW : Nat → Nat) (w3 : Nat) (w5 : Nat) (w6 : Nat) (fs : List Value) (M : Nat → Nat) (O : Nat → Nat) (hf2 : fs[2]? = some (.ref w3)) (hf4 : fs[4]? = some (.ref w5)) (hf5 : fs[5]? = some (.ref w6)) (h0k : ok M) (hSW : wOk M O SW) (sz : Nat) : Met l yX4_findBestTrade wsX4_findBestTrade ({ frames := 5, cells := 0, slots := 0, locals := 132 } : Room) (WRn G [(s0, .inr (4, [.int (nI bf), .int (nI bs), .int (nI bm), .ref w0, .ref s1])), (s1, .inl (G.2 0, 49, .inl (nA SW))), (w0, .inr (1, fs)), (w3, .inl (G.2 0, 49, .inl (nA (cut 49 148 M)))), (w5, .inl (G.2 0, 2, .inl (nA (cut 2 197 M)))), (w6, .inl (G.2 0, 168, .inl (nA (vv M))))] sz [.ref s0]) (va_Qi (fun (r : Int32) (_ : Unit) => r = nI (bb (¬ (bsf M O 49).1 = 0)) ∧ (True)) (WB G (va_A [(s0, .inr (4, [.int (nI bf), .int (nI bs), .int (nI bm), .ref w0, .ref s1])), (s1, .inl (G.2 0, 49, .inl (nA SW))), (w0, .inr (1, fs)), (w3, .inl (G.2 0, 49, .inl (nA (cut 49 148 M)))), (w5, .inl (G.2 0, 2, .inl (nA (cut 2 197 M)))), (w6, .inl (G.2 0, 168, .inl (nA (vv M))))] sz) (fun _ : Unit => [(s0, .inr (4, [.int (nI (fbA (bsf M O 49) bf)), .int (nI (fbB (bsf M O 49) bs)), .int (nI (fbC (bsf M O 49) bm)), .ref w0, .ref s1])), (s1, .inl (G.2 0, 49, .inl (nA SW))), (w0, .inr (1, fs)), (w3, .inl (G.2 0, 49, .inl (nA (cut 49 148 M)))), (w5, .inl (G.2 0, 2, .inl (nA (cut 2 197 M)))), (w6, .inl (G.2 0, 168, .inl (nA (vv M))))])) (va_A [(s0, .inr (4, [.int (nI bf), .int (nI bs), .int (nI bm), .ref w0, .ref s1])), (s1, .inl (G.2 0, 49, .inl (nA SW))), (w0, .inr (1, fs)), (w3, .inl (G.2 0, 49, .inl (nA (cut 49 148 M)))), (w5, .inl (G.2 0, 2, .inl (nA (cut 2 197 M)))), (w6, .inl (G.2 0, 168, .inl (nA (vv M))))] sz)) 0 0 (va_A [(s0, .inr (4, [.int (nI bf), .int (nI bs), .int (nI bm), .ref w0, .ref s1])), (s1, .inl (G.2 0, 49, .inl (nA SW))), (w0, .inr (1, fs)), (w3, .inl (G.2 0, 49, .inl (nA (cut 49 148 M)))), (w5, .inl (G.2 0, 2, .inl (nA (cut 2 197 M)))), (w6, .inl (G.2 0, 168, .inl (nA (vv M))))] sz) := wrMn (Qf := fun AA => va_Qi (fun (r : Int32) (_ : Unit) => r = nI (bb (¬ (bsf M O 49).1 = 0)) ∧ (True)) (WB G AA (fun _ : Unit => [(s0, .inr (4, [.int (nI (fbA (bsf M O 49) bf)), .int (nI (fbB (bsf M O 49) bs)), .int (nI (fbC (bsf M O 49) bm)), .ref w0, .ref s1])), (s1, .inl (G.2 0, 49, .inl (nA SW))), (w0, .inr (1, fs)), (w3, .inl (G.2 0, 49, .inl (nA (cut 49 148 M)))), (w5, .inl (G.2 0, 2, .inl (nA (cut 2 197 M)))), (w6, .inl (G.2 0, 168, .inl (nA (vv M))))])) AA) (C := RX4) rfl (by decide) rfl (Nat.le_of_ble_eq_true rfl) (fun pX eX sX mX bX meX cX ls AA hx hb hr hts hown hlk hml hin hP hK hNW hD hAA hS hl => by
  have hl : lv_has ls 5 [(0, .ref s0)] := hl
  have hF4 : ∀ w ∈ wsX40, w ∈ wsX4_findBestTrade := fun _ h => (List.mem_cons_of_mem _ (List.mem_append_left _ (List.mem_append_right _ h)))
  refine nr_const (v := 0) hx hb dX4_findBestTrade_0 rfl ?_
  refine nr_top (y := nI (bb (¬ (bsf M O (7 * 0)).1 = 0))) ((congrArg nI (bb_f (fun q => q rfl))).symm) ?_
  refine lv_istore_n (lv' := [(1, .int (nI (bb (¬ (bsf M O (7 * 0)).1 = 0)))), (0, .ref s0)]) hx hb dX4_findBestTrade_1 rfl hl (by decide) rfl (fun ls hl => ?_)
  refine nr_const (v := 0) hx hb dX4_findBestTrade_2 rfl ?_
  refine lv_istore_n (lv' := [(2, .int (nI 0)), (1, .int (nI (bb (¬ (bsf M O (7 * 0)).1 = 0)))), (0, .ref s0)]) hx hb dX4_findBestTrade_3 rfl hl (by decide) rfl (fun ls hl => ?_)
  rw [← fbA_0 M O bf, ← fbB_0 M O bs, ← fbC_0 M O bm] at hP hD
  refine loop_w (T := Nat) (nL := 5) (fun a => a ≤ 7) (fun a => 7 - a) (fun a => [(0, .ref s0), (1, .int (nI (bb (¬ (bsf M O (7 * a)).1 = 0)))), (2, .int (nI a))]) (fun a => [(s0, .inr (4, [.int (nI (fbA (bsf M O (7 * a)) bf)), .int (nI (fbB (bsf M O (7 * a)) bs)), .int (nI (fbC (bsf M O (7 * a)) bm)), .ref w0, .ref s1])), (s1, .inl (G.2 0, 49, .inl (nA SW))), (w0, .inr (1, fs)), (w3, .inl (G.2 0, 49, .inl (nA (cut 49 148 M)))), (w5, .inl (G.2 0, 2, .inl (nA (cut 2 197 M)))), (w6, .inl (G.2 0, 168, .inl (nA (vv M))))]) ?_ 0 (lv_sub hl [2, 1, 0] rfl) hP hD hS (by omega)
  intro a ls H locs hl hP hD hS hi2 ih1
  have hi2_0 := hi2
  have hi2_0 : a ≤ 7 := hi2_0
  have hl : lv_has ls 5 [(0, .ref s0), (1, .int (nI (bb (¬ (bsf M O (7 * a)).1 = 0)))), (2, .int (nI a))] := hl
  have hP : va_P G.1 vwCl [(s0, .inr (4, [.int (nI (fbA (bsf M O (7 * a)) bf)), .int (nI (fbB (bsf M O (7 * a)) bs)), .int (nI (fbC (bsf M O (7 * a)) bm)), .ref w0, .ref s1])), (s1, .inl (G.2 0, 49, .inl (nA SW))), (w0, .inr (1, fs)), (w3, .inl (G.2 0, 49, .inl (nA (cut 49 148 M)))), (w5, .inl (G.2 0, 2, .inl (nA (cut 2 197 M)))), (w6, .inl (G.2 0, 168, .inl (nA (vv M))))] _ := hP
  have hD : va_D AA [(s0, .inr (4, [.int (nI (fbA (bsf M O (7 * a)) bf)), .int (nI (fbB (bsf M O (7 * a)) bs)), .int (nI (fbC (bsf M O (7 * a)) bm)), .ref w0, .ref s1])), (s1, .inl (G.2 0, 49, .inl (nA SW))), (w0, .inr (1, fs)), (w3, .inl (G.2 0, 49, .inl (nA (cut 49 148 M)))), (w5, .inl (G.2 0, 2, .inl (nA (cut 2 197 M)))), (w6, .inl (G.2 0, 168, .inl (nA (vv M))))] := hD
  refine lv_iload_n hx hb dX4_findBestTrade_4 rfl (lv_at hl 2 rfl) ?_
  refine nr_bi (v := 7) hx hb dX4_findBestTrade_5 (by decide +kernel) ?_
  refine br_ige (tgt := 80) hx hb dX4_findBestTrade_7 (by decide) (by omega) (by decide) (fun h3 => ?_) (fun h3 => ?_)
  · skip
    refine lv_iload_n hx hb dX4_findBestTrade_80 rfl (lv_at hl 1 rfl) ?_
    have e2 : a = 7 := (by omega)
    subst e2
    exact wretz hx hb hr hlk hK hS (()) hP hD rfl (⟨rfl, trivial⟩) dX4_findBestTrade_81
  · skip
    refine lv_iload_n hx hb dX4_findBestTrade_10 rfl (lv_at hl 2 rfl) ?_
    refine nr_const (v := 1) hx hb dX4_findBestTrade_11 rfl ?_
    refine nr_add hx hb dX4_findBestTrade_12 ?_
    refine lv_istore_n (lv' := [(3, .int (nI (a + 1))), (0, .ref s0), (1, .int (nI (bb (¬ (bsf M O (7 * a)).1 = 0)))), (2, .int (nI a))]) hx hb dX4_findBestTrade_13 rfl hl (by decide) rfl (fun ls hl => ?_)
    rw [← bsf_k M O (show a < 7 by omega) (Nat.le_refl (a + 1))] at hl hP hD
    refine loop_w (T := Nat) (nL := 5) (fun b => a < b ∧ b ≤ 7) (fun b => 7 - b) (fun b => [(0, .ref s0), (1, .int (nI (bb (¬ (bsf M O (7 * a + b)).1 = 0)))), (2, .int (nI a)), (3, .int (nI b))]) (fun b => [(s0, .inr (4, [.int (nI (fbA (bsf M O (7 * a + b)) bf)), .int (nI (fbB (bsf M O (7 * a + b)) bs)), .int (nI (fbC (bsf M O (7 * a + b)) bm)), .ref w0, .ref s1])), (s1, .inl (G.2 0, 49, .inl (nA SW))), (w0, .inr (1, fs)), (w3, .inl (G.2 0, 49, .inl (nA (cut 49 148 M)))), (w5, .inl (G.2 0, 2, .inl (nA (cut 2 197 M)))), (w6, .inl (G.2 0, 168, .inl (nA (vv M))))]) ?_ (a + 1) (lv_sub hl [1, 2, 3, 0] rfl) hP hD hS ⟨by omega, by omega⟩
    intro b ls H locs hl hP hD hS hi5 ih4
    obtain ⟨hi5_0, hi5_1⟩ := hi5
    have hi5_0 : a < b := hi5_0
    have hi5_1 : b ≤ 7 := hi5_1
    have hl : lv_has ls 5 [(0, .ref s0), (1, .int (nI (bb (¬ (bsf M O (7 * a + b)).1 = 0)))), (2, .int (nI a)), (3, .int (nI b))] := hl
    have hP : va_P G.1 vwCl [(s0, .inr (4, [.int (nI (fbA (bsf M O (7 * a + b)) bf)), .int (nI (fbB (bsf M O (7 * a + b)) bs)), .int (nI (fbC (bsf M O (7 * a + b)) bm)), .ref w0, .ref s1])), (s1, .inl (G.2 0, 49, .inl (nA SW))), (w0, .inr (1, fs)), (w3, .inl (G.2 0, 49, .inl (nA (cut 49 148 M)))), (w5, .inl (G.2 0, 2, .inl (nA (cut 2 197 M)))), (w6, .inl (G.2 0, 168, .inl (nA (vv M))))] _ := hP
    have hD : va_D AA [(s0, .inr (4, [.int (nI (fbA (bsf M O (7 * a + b)) bf)), .int (nI (fbB (bsf M O (7 * a + b)) bs)), .int (nI (fbC (bsf M O (7 * a + b)) bm)), .ref w0, .ref s1])), (s1, .inl (G.2 0, 49, .inl (nA SW))), (w0, .inr (1, fs)), (w3, .inl (G.2 0, 49, .inl (nA (cut 49 148 M)))), (w5, .inl (G.2 0, 2, .inl (nA (cut 2 197 M)))), (w6, .inl (G.2 0, 168, .inl (nA (vv M))))] := hD
    refine lv_iload_n hx hb dX4_findBestTrade_14 rfl (lv_at hl 3 rfl) ?_
    refine nr_bi (v := 7) hx hb dX4_findBestTrade_15 (by decide +kernel) ?_
    refine br_ige (tgt := 74) hx hb dX4_findBestTrade_17 (by decide) (by omega) (by decide) (fun h6 => ?_) (fun h6 => ?_)
    · skip
      refine nr_inc (d := 1) (v := a + 1) (lv' := [(2, .int (nI (a + 1))), (0, .ref s0), (1, .int (nI (bb (¬ (bsf M O (7 * a + b)).1 = 0)))), (3, .int (nI b))]) hx hb dX4_findBestTrade_74 hl (k := 2) rfl rfl (by decide) rfl (fun ls hl => ?_)
      refine lv_goto (tgt := 4) hx hb dX4_findBestTrade_77 (by decide) ?_
      have efx : bsf M O (7 * (a + 1)) = bsf M O (7 * a + b) := congrArg (bsf M O) (by omega)
      exact ih1 (a + 1) ls H locs (by show lv_has ls 5 [(0, .ref s0), (1, .int (nI (bb (¬ (bsf M O (7 * (a + 1))).1 = 0)))), (2, .int (nI (a + 1)))]; rw [efx]; exact lv_sub hl [1, 2, 0] rfl) (by show va_P G.1 vwCl [(s0, .inr (4, [.int (nI (fbA (bsf M O (7 * (a + 1))) bf)), .int (nI (fbB (bsf M O (7 * (a + 1))) bs)), .int (nI (fbC (bsf M O (7 * (a + 1))) bm)), .ref w0, .ref s1])), (s1, .inl (G.2 0, 49, .inl (nA SW))), (w0, .inr (1, fs)), (w3, .inl (G.2 0, 49, .inl (nA (cut 49 148 M)))), (w5, .inl (G.2 0, 2, .inl (nA (cut 2 197 M)))), (w6, .inl (G.2 0, 168, .inl (nA (vv M))))] H; rw [efx]; exact hP) (by show va_D AA [(s0, .inr (4, [.int (nI (fbA (bsf M O (7 * (a + 1))) bf)), .int (nI (fbB (bsf M O (7 * (a + 1))) bs)), .int (nI (fbC (bsf M O (7 * (a + 1))) bm)), .ref w0, .ref s1])), (s1, .inl (G.2 0, 49, .inl (nA SW))), (w0, .inr (1, fs)), (w3, .inl (G.2 0, 49, .inl (nA (cut 49 148 M)))), (w5, .inl (G.2 0, 2, .inl (nA (cut 2 197 M)))), (w6, .inl (G.2 0, 168, .inl (nA (vv M))))]; rw [efx]; exact hD) hS (by omega) (by omega)
    · skip
      have hrs := rs_lt M O a b
      have hb2 : (bsf M O (7 * a + b)).2 ≤ 723975 := bsf_2 h0k _
      have hes := es_le (O := swO O a b) (A := 127) (B := 127) h0k
      refine lv_aload_n hx hb dX4_findBestTrade_20 rfl (lv_at hl 0 rfl) ?_
      refine lv_iload_n hx hb dX4_findBestTrade_21 rfl (lv_at hl 2 rfl) ?_
      refine lv_iload_n hx hb dX4_findBestTrade_22 rfl (lv_at hl 3 rfl) ?_
      refine rcVn (As := [.int (nI a), .int (nI b)]) (wl := [(s0, .inr (4, [.int (nI (fbA (bsf M O (7 * a + b)) bf)), .int (nI (fbB (bsf M O (7 * a + b)) bs)), .int (nI (fbC (bsf M O (7 * a + b)) bm)), .ref w0, .ref s1])), (s1, .inl (G.2 0, 49, .inl (nA SW))), (w0, .inr (1, fs)), (w3, .inl (G.2 0, 49, .inl (nA (cut 49 148 M)))), (w5, .inl (G.2 0, 2, .inl (nA (cut 2 197 M)))), (w6, .inl (G.2 0, 168, .inl (nA (vv M))))]) ⟨hx, hb, hml, hown, hts⟩ (c_X4_whyNoTrade l G s0 (fbA (bsf M O (7 * a + b)) bf) (fbB (bsf M O (7 * a + b)) bs) (fbC (bsf M O (7 * a + b)) bm) w0 s1 SW w3 w5 w6 fs M O a b hf2 hf4 hf5 h0k hSW (by omega) (by omega)) (cwV 2 hts gX4_findBestTrade_X4_whyNoTrade rfl rfl rfl (by decide +kernel) ⟨Nat.le_of_ble_eq_true rfl, Nat.le_of_ble_eq_true rfl⟩) hK hP hNW 4 0 rfl rfl rfl hl.1 rfl (Nat.le_of_ble_eq_true rfl) dX4_findBestTrade_23 ⟨Nat.zero_le _, Nat.zero_le _⟩ ?_
      refine br_ne0 (tgt := 68) hx hb dX4_findBestTrade_26 (by decide) (by omega) (fun h7 => ?_) (fun h7 => ?_)
      · skip
        refine nr_inc (d := 1) (v := b + 1) (lv' := [(3, .int (nI (b + 1))), (0, .ref s0), (1, .int (nI (bb (¬ (bsf M O (7 * a + b)).1 = 0)))), (2, .int (nI a))]) hx hb dX4_findBestTrade_68 hl (k := 3) rfl rfl (by decide) rfl (fun ls hl => ?_)
        refine lv_goto (tgt := 14) hx hb dX4_findBestTrade_71 (by decide) ?_
        have efx : bsf M O (7 * a + (b + 1)) = bsf M O (7 * a + b) := by rw [bsf_t M O (by omega) (by omega), if_neg h7]
        exact ih4 (b + 1) ls H locs (by show lv_has ls 5 [(0, .ref s0), (1, .int (nI (bb (¬ (bsf M O (7 * a + (b + 1))).1 = 0)))), (2, .int (nI a)), (3, .int (nI (b + 1)))]; rw [efx]; exact lv_sub hl [1, 2, 3, 0] rfl) (by show va_P G.1 vwCl [(s0, .inr (4, [.int (nI (fbA (bsf M O (7 * a + (b + 1))) bf)), .int (nI (fbB (bsf M O (7 * a + (b + 1))) bs)), .int (nI (fbC (bsf M O (7 * a + (b + 1))) bm)), .ref w0, .ref s1])), (s1, .inl (G.2 0, 49, .inl (nA SW))), (w0, .inr (1, fs)), (w3, .inl (G.2 0, 49, .inl (nA (cut 49 148 M)))), (w5, .inl (G.2 0, 2, .inl (nA (cut 2 197 M)))), (w6, .inl (G.2 0, 168, .inl (nA (vv M))))] H; rw [efx]; exact hP) (by show va_D AA [(s0, .inr (4, [.int (nI (fbA (bsf M O (7 * a + (b + 1))) bf)), .int (nI (fbB (bsf M O (7 * a + (b + 1))) bs)), .int (nI (fbC (bsf M O (7 * a + (b + 1))) bm)), .ref w0, .ref s1])), (s1, .inl (G.2 0, 49, .inl (nA SW))), (w0, .inr (1, fs)), (w3, .inl (G.2 0, 49, .inl (nA (cut 49 148 M)))), (w5, .inl (G.2 0, 2, .inl (nA (cut 2 197 M)))), (w6, .inl (G.2 0, 168, .inl (nA (vv M))))]; rw [efx]; exact hD) hS ⟨by omega, by omega⟩ (by omega)
      · skip
        refine lv_aload_n hx hb dX4_findBestTrade_29 rfl (lv_at hl 0 rfl) ?_
        refine lv_iload_n hx hb dX4_findBestTrade_30 rfl (lv_at hl 2 rfl) ?_
        refine lv_iload_n hx hb dX4_findBestTrade_31 rfl (lv_at hl 3 rfl) ?_
        refine wcVin (As := [.int (nI a), .int (nI b)]) (ws := [(s0, .inr (4, [.int (nI (fbA (bsf M O (7 * a + b)) bf)), .int (nI (fbB (bsf M O (7 * a + b)) bs)), .int (nI (fbC (bsf M O (7 * a + b)) bm)), .ref w0, .ref s1])), (s1, .inl (G.2 0, 49, .inl (nA SW))), (w0, .inr (1, fs)), (w3, .inl (G.2 0, 49, .inl (nA (cut 49 148 M)))), (w5, .inl (G.2 0, 2, .inl (nA (cut 2 197 M)))), (w6, .inl (G.2 0, 168, .inl (nA (vv M))))]) (wc := [(s0, .inr (4, [.int (nI (fbA (bsf M O (7 * a + b)) bf)), .int (nI (fbB (bsf M O (7 * a + b)) bs)), .int (nI (fbC (bsf M O (7 * a + b)) bm)), .ref w0, .ref s1])), (s1, .inl (G.2 0, 49, .inl (nA SW))), (w0, .inr (1, fs)), (w3, .inl (G.2 0, 49, .inl (nA (cut 49 148 M)))), (w5, .inl (G.2 0, 2, .inl (nA (cut 2 197 M)))), (w6, .inl (G.2 0, 168, .inl (nA (vv M))))]) (wr := []) (wn := fun _ => [(s0, .inr (4, [.int (nI (fbA (bsf M O (7 * a + b)) bf)), .int (nI (fbB (bsf M O (7 * a + b)) bs)), .int (nI (fbC (bsf M O (7 * a + b)) bm)), .ref w0, .ref s1])), (s1, .inl (G.2 0, 49, .inl (nA SW))), (w0, .inr (1, fs)), (w3, .inl (G.2 0, 49, .inl (nA (cut 49 148 M)))), (w5, .inl (G.2 0, 2, .inl (nA (cut 2 197 M)))), (w6, .inl (G.2 0, 168, .inl (nA (vv M))))]) ⟨hx, hb, hml, hown, hts⟩ (c_X4_enviesAfterTrade l G s0 (fbA (bsf M O (7 * a + b)) bf) (fbB (bsf M O (7 * a + b)) bs) (fbC (bsf M O (7 * a + b)) bm) w0 s1 SW w3 w5 w6 fs M O a b hf2 hf4 hf5 h0k hSW (by omega) (by omega) _) (cwV 2 hts gX4_findBestTrade_X4_enviesAfterTrade rfl rfl rfl (by decide +kernel) ⟨Nat.le_of_ble_eq_true rfl, Nat.le_of_ble_eq_true rfl⟩) hK hNW hP hD hS hAA [0, 1, 2, 3, 4, 5] [] [0, 1, 2, 3, 4, 5] rfl rfl rfl rfl (by decide) rfl (fun _ => rfl) 4 0 rfl rfl rfl hl.1 rfl (Nat.le_of_ble_eq_true rfl) dX4_findBestTrade_32 ⟨by first | exact Nat.le_of_ble_eq_true rfl | omega, by first | exact Nat.le_of_ble_eq_true rfl | omega⟩ (fun rr9 uu H locs hw8 hP hD hS => ?_)
        have hP : va_P G.1 vwCl [(s0, .inr (4, [.int (nI (fbA (bsf M O (7 * a + b)) bf)), .int (nI (fbB (bsf M O (7 * a + b)) bs)), .int (nI (fbC (bsf M O (7 * a + b)) bm)), .ref w0, .ref s1])), (s1, .inl (G.2 0, 49, .inl (nA SW))), (w0, .inr (1, fs)), (w3, .inl (G.2 0, 49, .inl (nA (cut 49 148 M)))), (w5, .inl (G.2 0, 2, .inl (nA (cut 2 197 M)))), (w6, .inl (G.2 0, 168, .inl (nA (vv M))))] _ := hP
        have hD : va_D AA [(s0, .inr (4, [.int (nI (fbA (bsf M O (7 * a + b)) bf)), .int (nI (fbB (bsf M O (7 * a + b)) bs)), .int (nI (fbC (bsf M O (7 * a + b)) bm)), .ref w0, .ref s1])), (s1, .inl (G.2 0, 49, .inl (nA SW))), (w0, .inr (1, fs)), (w3, .inl (G.2 0, 49, .inl (nA (cut 49 148 M)))), (w5, .inl (G.2 0, 2, .inl (nA (cut 2 197 M)))), (w6, .inl (G.2 0, 168, .inl (nA (vv M))))] := hD
        obtain ⟨hrhw8, hw8⟩ := hw8
        subst hrhw8
        refine lv_istore (lv' := [(4, .int (nI (es M (swO O a b) 127 127))), (0, .ref s0), (1, .int (nI (bb (¬ (bsf M O (7 * a + b)).1 = 0)))), (2, .int (nI a)), (3, .int (nI b))]) hx hb dX4_findBestTrade_35 hl (by decide) rfl (fun ls hl => ?_)
        refine lv_iload_n hx hb dX4_findBestTrade_37 rfl (lv_at hl 2 rfl) ?_
        refine br_eqb (tgt := 50) hx hb dX4_findBestTrade_38 (by decide) (fun h10 => ?_) (fun h10 => ?_)
        · skip
          refine nr_const (v := 1) hx hb dX4_findBestTrade_50 rfl ?_
          refine lv_istore_n (lv' := [(1, .int (nI 1)), (4, .int (nI (es M (swO O a b) 127 127))), (0, .ref s0), (2, .int (nI a)), (3, .int (nI b))]) hx hb dX4_findBestTrade_51 rfl hl (by decide) rfl (fun ls hl => ?_)
          refine lv_aload_n hx hb dX4_findBestTrade_52 rfl (lv_at hl 2 rfl) ?_
          refine lv_iload_n hx hb dX4_findBestTrade_53 rfl (lv_at hl 3 rfl) ?_
          refine va_put (D := G.1) (ci := 4) (v := .int (nI a)) (ty := .int) (C := RX4) (T := TX4) (N := 5) hx hb hts hF4 tyX4 tyX4_ok nmX4 hown hK hP hD hS 0 rfl rfl 0 (by decide) (hts (.fieldLink RX4 71 "CousinShares$Shares" "bestFirst" "I") (List.mem_of_getElem? (i := 2) rfl)) (fun _ h9 => h9) rfl (by decide +kernel) rfl rfl (Nat.le_of_ble_eq_true rfl) dX4_findBestTrade_54 (fun H locs hP hD hS => ?_)
          have hP : va_P G.1 vwCl [(s0, .inr (4, [.int (nI a), .int (nI (fbB (bsf M O (7 * a + b)) bs)), .int (nI (fbC (bsf M O (7 * a + b)) bm)), .ref w0, .ref s1])), (s1, .inl (G.2 0, 49, .inl (nA SW))), (w0, .inr (1, fs)), (w3, .inl (G.2 0, 49, .inl (nA (cut 49 148 M)))), (w5, .inl (G.2 0, 2, .inl (nA (cut 2 197 M)))), (w6, .inl (G.2 0, 168, .inl (nA (vv M))))] _ := hP
          have hD : va_D AA [(s0, .inr (4, [.int (nI a), .int (nI (fbB (bsf M O (7 * a + b)) bs)), .int (nI (fbC (bsf M O (7 * a + b)) bm)), .ref w0, .ref s1])), (s1, .inl (G.2 0, 49, .inl (nA SW))), (w0, .inr (1, fs)), (w3, .inl (G.2 0, 49, .inl (nA (cut 49 148 M)))), (w5, .inl (G.2 0, 2, .inl (nA (cut 2 197 M)))), (w6, .inl (G.2 0, 168, .inl (nA (vv M))))] := hD
          refine lv_aload_n hx hb dX4_findBestTrade_57 rfl (lv_at hl 2 rfl) ?_
          refine lv_iload_n hx hb dX4_findBestTrade_58 rfl (lv_at hl 4 rfl) ?_
          refine va_put (D := G.1) (ci := 4) (v := .int (nI b)) (ty := .int) (C := RX4) (T := TX4) (N := 5) hx hb hts hF4 tyX4 tyX4_ok nmX4 hown hK hP hD hS 0 rfl rfl 1 (by decide) (hts (.fieldLink RX4 74 "CousinShares$Shares" "bestSecond" "I") (List.mem_of_getElem? (i := 3) rfl)) (fun _ h9 => h9) rfl (by decide +kernel) rfl rfl (Nat.le_of_ble_eq_true rfl) dX4_findBestTrade_59 (fun H locs hP hD hS => ?_)
          have hP : va_P G.1 vwCl [(s0, .inr (4, [.int (nI a), .int (nI b), .int (nI (fbC (bsf M O (7 * a + b)) bm)), .ref w0, .ref s1])), (s1, .inl (G.2 0, 49, .inl (nA SW))), (w0, .inr (1, fs)), (w3, .inl (G.2 0, 49, .inl (nA (cut 49 148 M)))), (w5, .inl (G.2 0, 2, .inl (nA (cut 2 197 M)))), (w6, .inl (G.2 0, 168, .inl (nA (vv M))))] _ := hP
          have hD : va_D AA [(s0, .inr (4, [.int (nI a), .int (nI b), .int (nI (fbC (bsf M O (7 * a + b)) bm)), .ref w0, .ref s1])), (s1, .inl (G.2 0, 49, .inl (nA SW))), (w0, .inr (1, fs)), (w3, .inl (G.2 0, 49, .inl (nA (cut 49 148 M)))), (w5, .inl (G.2 0, 2, .inl (nA (cut 2 197 M)))), (w6, .inl (G.2 0, 168, .inl (nA (vv M))))] := hD
          refine lv_aload_n hx hb dX4_findBestTrade_62 rfl (lv_at hl 2 rfl) ?_
          refine lv_iload hx hb dX4_findBestTrade_63 (lv_at hl 1 rfl) ?_
          refine va_put (D := G.1) (ci := 4) (v := .int (nI (es M (swO O a b) 127 127))) (ty := .int) (C := RX4) (T := TX4) (N := 5) hx hb hts hF4 tyX4 tyX4_ok nmX4 hown hK hP hD hS 0 rfl rfl 2 (by decide) (hts (.fieldLink RX4 67 "CousinShares$Shares" "bestSum" "I") (List.mem_of_getElem? (i := 1) rfl)) (fun _ h9 => h9) rfl (by decide +kernel) rfl rfl (Nat.le_of_ble_eq_true rfl) dX4_findBestTrade_65 (fun H locs hP hD hS => ?_)
          have hP : va_P G.1 vwCl [(s0, .inr (4, [.int (nI a), .int (nI b), .int (nI (es M (swO O a b) 127 127)), .ref w0, .ref s1])), (s1, .inl (G.2 0, 49, .inl (nA SW))), (w0, .inr (1, fs)), (w3, .inl (G.2 0, 49, .inl (nA (cut 49 148 M)))), (w5, .inl (G.2 0, 2, .inl (nA (cut 2 197 M)))), (w6, .inl (G.2 0, 168, .inl (nA (vv M))))] _ := hP
          have hD : va_D AA [(s0, .inr (4, [.int (nI a), .int (nI b), .int (nI (es M (swO O a b) 127 127)), .ref w0, .ref s1])), (s1, .inl (G.2 0, 49, .inl (nA SW))), (w0, .inr (1, fs)), (w3, .inl (G.2 0, 49, .inl (nA (cut 49 148 M)))), (w5, .inl (G.2 0, 2, .inl (nA (cut 2 197 M)))), (w6, .inl (G.2 0, 168, .inl (nA (vv M))))] := hD
          refine nr_inc (d := 1) (v := b + 1) (lv' := [(3, .int (nI (b + 1))), (1, .int (nI 1)), (4, .int (nI (es M (swO O a b) 127 127))), (0, .ref s0), (2, .int (nI a))]) hx hb dX4_findBestTrade_68 hl (k := 4) rfl rfl (by decide) rfl (fun ls hl => ?_)
          refine lv_goto (tgt := 14) hx hb dX4_findBestTrade_71 (by decide) ?_
          have efx : bsf M O (7 * a + (b + 1)) = (10 * a + b, es M (swO O a b) 127 127) := by rw [bsf_t M O (by omega) (by omega), if_pos h7, if_pos (Or.inl (Decidable.of_not_not h10))]
          exact ih4 (b + 1) ls H locs (by show lv_has ls 5 [(0, .ref s0), (1, .int (nI (bb (¬ (bsf M O (7 * a + (b + 1))).1 = 0)))), (2, .int (nI a)), (3, .int (nI (b + 1)))]; rw [efx, bb_t (show ¬ (10 * a + b, es M (swO O a b) 127 127).1 = 0 by dsimp only; omega)]; exact lv_sub hl [3, 1, 4, 0] rfl) (by show va_P G.1 vwCl [(s0, .inr (4, [.int (nI (fbA (bsf M O (7 * a + (b + 1))) bf)), .int (nI (fbB (bsf M O (7 * a + (b + 1))) bs)), .int (nI (fbC (bsf M O (7 * a + (b + 1))) bm)), .ref w0, .ref s1])), (s1, .inl (G.2 0, 49, .inl (nA SW))), (w0, .inr (1, fs)), (w3, .inl (G.2 0, 49, .inl (nA (cut 49 148 M)))), (w5, .inl (G.2 0, 2, .inl (nA (cut 2 197 M)))), (w6, .inl (G.2 0, 168, .inl (nA (vv M))))] H; rw [efx, fbA_u (by omega) (by omega), fbB_u (by omega) (by omega), fbC_u (by omega)]; exact hP) (by show va_D AA [(s0, .inr (4, [.int (nI (fbA (bsf M O (7 * a + (b + 1))) bf)), .int (nI (fbB (bsf M O (7 * a + (b + 1))) bs)), .int (nI (fbC (bsf M O (7 * a + (b + 1))) bm)), .ref w0, .ref s1])), (s1, .inl (G.2 0, 49, .inl (nA SW))), (w0, .inr (1, fs)), (w3, .inl (G.2 0, 49, .inl (nA (cut 49 148 M)))), (w5, .inl (G.2 0, 2, .inl (nA (cut 2 197 M)))), (w6, .inl (G.2 0, 168, .inl (nA (vv M))))]; rw [efx, fbA_u (by omega) (by omega), fbB_u (by omega) (by omega), fbC_u (by omega)]; exact hD) hS ⟨by omega, by omega⟩ (by omega)
        · skip
          refine lv_iload hx hb dX4_findBestTrade_41 (lv_at hl 0 rfl) ?_
          refine lv_aload_n hx hb dX4_findBestTrade_43 rfl (lv_at hl 1 rfl) ?_
          refine va_get (D := G.1) (ci := 4) (v := .int (nI (fbC (bsf M O (7 * a + b)) bm))) (C := RX4) (T := TX4) (N := 5) hx hb hts hF4 hown hK hP 0 rfl rfl 2 (by decide) (hts (.fieldLink RX4 67 "CousinShares$Shares" "bestSum" "I") (List.mem_of_getElem? (i := 1) rfl)) (fun _ h9 => h9) rfl dX4_findBestTrade_44 ?_
          refine nr_top (y := nI ((bsf M O (7 * a + b)).2)) (congrArg nI (if_neg (by assumption))) ?_
          refine br_ige (tgt := 68) hx hb dX4_findBestTrade_47 (by decide) (by omega) (by omega) (fun h11 => ?_) (fun h11 => ?_)
          · skip
            refine nr_inc (d := 1) (v := b + 1) (lv' := [(3, .int (nI (b + 1))), (4, .int (nI (es M (swO O a b) 127 127))), (0, .ref s0), (1, .int (nI (bb (¬ (bsf M O (7 * a + b)).1 = 0)))), (2, .int (nI a))]) hx hb dX4_findBestTrade_68 hl (k := 4) rfl rfl (by decide) rfl (fun ls hl => ?_)
            refine lv_goto (tgt := 14) hx hb dX4_findBestTrade_71 (by decide) ?_
            have efx : bsf M O (7 * a + (b + 1)) = bsf M O (7 * a + b) := by rw [bsf_t M O (by omega) (by omega), if_pos h7, if_neg (fun q => q.elim (fun w => h10 w) (fun w => absurd w (Nat.not_lt_of_le h11)))]
            exact ih4 (b + 1) ls H locs (by show lv_has ls 5 [(0, .ref s0), (1, .int (nI (bb (¬ (bsf M O (7 * a + (b + 1))).1 = 0)))), (2, .int (nI a)), (3, .int (nI (b + 1)))]; rw [efx]; exact lv_sub hl [2, 3, 4, 0] rfl) (by show va_P G.1 vwCl [(s0, .inr (4, [.int (nI (fbA (bsf M O (7 * a + (b + 1))) bf)), .int (nI (fbB (bsf M O (7 * a + (b + 1))) bs)), .int (nI (fbC (bsf M O (7 * a + (b + 1))) bm)), .ref w0, .ref s1])), (s1, .inl (G.2 0, 49, .inl (nA SW))), (w0, .inr (1, fs)), (w3, .inl (G.2 0, 49, .inl (nA (cut 49 148 M)))), (w5, .inl (G.2 0, 2, .inl (nA (cut 2 197 M)))), (w6, .inl (G.2 0, 168, .inl (nA (vv M))))] H; rw [efx]; exact hP) (by show va_D AA [(s0, .inr (4, [.int (nI (fbA (bsf M O (7 * a + (b + 1))) bf)), .int (nI (fbB (bsf M O (7 * a + (b + 1))) bs)), .int (nI (fbC (bsf M O (7 * a + (b + 1))) bm)), .ref w0, .ref s1])), (s1, .inl (G.2 0, 49, .inl (nA SW))), (w0, .inr (1, fs)), (w3, .inl (G.2 0, 49, .inl (nA (cut 49 148 M)))), (w5, .inl (G.2 0, 2, .inl (nA (cut 2 197 M)))), (w6, .inl (G.2 0, 168, .inl (nA (vv M))))]; rw [efx]; exact hD) hS ⟨by omega, by omega⟩ (by omega)
          · skip
            refine nr_const (v := 1) hx hb dX4_findBestTrade_50 rfl ?_
            refine lv_istore_n (lv' := [(1, .int (nI 1)), (4, .int (nI (es M (swO O a b) 127 127))), (0, .ref s0), (2, .int (nI a)), (3, .int (nI b))]) hx hb dX4_findBestTrade_51 rfl hl (by decide) rfl (fun ls hl => ?_)
            refine lv_aload_n hx hb dX4_findBestTrade_52 rfl (lv_at hl 2 rfl) ?_
            refine lv_iload_n hx hb dX4_findBestTrade_53 rfl (lv_at hl 3 rfl) ?_
            refine va_put (D := G.1) (ci := 4) (v := .int (nI a)) (ty := .int) (C := RX4) (T := TX4) (N := 5) hx hb hts hF4 tyX4 tyX4_ok nmX4 hown hK hP hD hS 0 rfl rfl 0 (by decide) (hts (.fieldLink RX4 71 "CousinShares$Shares" "bestFirst" "I") (List.mem_of_getElem? (i := 2) rfl)) (fun _ h9 => h9) rfl (by decide +kernel) rfl rfl (Nat.le_of_ble_eq_true rfl) dX4_findBestTrade_54 (fun H locs hP hD hS => ?_)
            have hP : va_P G.1 vwCl [(s0, .inr (4, [.int (nI a), .int (nI (fbB (bsf M O (7 * a + b)) bs)), .int (nI (fbC (bsf M O (7 * a + b)) bm)), .ref w0, .ref s1])), (s1, .inl (G.2 0, 49, .inl (nA SW))), (w0, .inr (1, fs)), (w3, .inl (G.2 0, 49, .inl (nA (cut 49 148 M)))), (w5, .inl (G.2 0, 2, .inl (nA (cut 2 197 M)))), (w6, .inl (G.2 0, 168, .inl (nA (vv M))))] _ := hP
            have hD : va_D AA [(s0, .inr (4, [.int (nI a), .int (nI (fbB (bsf M O (7 * a + b)) bs)), .int (nI (fbC (bsf M O (7 * a + b)) bm)), .ref w0, .ref s1])), (s1, .inl (G.2 0, 49, .inl (nA SW))), (w0, .inr (1, fs)), (w3, .inl (G.2 0, 49, .inl (nA (cut 49 148 M)))), (w5, .inl (G.2 0, 2, .inl (nA (cut 2 197 M)))), (w6, .inl (G.2 0, 168, .inl (nA (vv M))))] := hD
            refine lv_aload_n hx hb dX4_findBestTrade_57 rfl (lv_at hl 2 rfl) ?_
            refine lv_iload_n hx hb dX4_findBestTrade_58 rfl (lv_at hl 4 rfl) ?_
            refine va_put (D := G.1) (ci := 4) (v := .int (nI b)) (ty := .int) (C := RX4) (T := TX4) (N := 5) hx hb hts hF4 tyX4 tyX4_ok nmX4 hown hK hP hD hS 0 rfl rfl 1 (by decide) (hts (.fieldLink RX4 74 "CousinShares$Shares" "bestSecond" "I") (List.mem_of_getElem? (i := 3) rfl)) (fun _ h9 => h9) rfl (by decide +kernel) rfl rfl (Nat.le_of_ble_eq_true rfl) dX4_findBestTrade_59 (fun H locs hP hD hS => ?_)
            have hP : va_P G.1 vwCl [(s0, .inr (4, [.int (nI a), .int (nI b), .int (nI (fbC (bsf M O (7 * a + b)) bm)), .ref w0, .ref s1])), (s1, .inl (G.2 0, 49, .inl (nA SW))), (w0, .inr (1, fs)), (w3, .inl (G.2 0, 49, .inl (nA (cut 49 148 M)))), (w5, .inl (G.2 0, 2, .inl (nA (cut 2 197 M)))), (w6, .inl (G.2 0, 168, .inl (nA (vv M))))] _ := hP
            have hD : va_D AA [(s0, .inr (4, [.int (nI a), .int (nI b), .int (nI (fbC (bsf M O (7 * a + b)) bm)), .ref w0, .ref s1])), (s1, .inl (G.2 0, 49, .inl (nA SW))), (w0, .inr (1, fs)), (w3, .inl (G.2 0, 49, .inl (nA (cut 49 148 M)))), (w5, .inl (G.2 0, 2, .inl (nA (cut 2 197 M)))), (w6, .inl (G.2 0, 168, .inl (nA (vv M))))] := hD
            refine lv_aload_n hx hb dX4_findBestTrade_62 rfl (lv_at hl 2 rfl) ?_
            refine lv_iload hx hb dX4_findBestTrade_63 (lv_at hl 1 rfl) ?_
            refine va_put (D := G.1) (ci := 4) (v := .int (nI (es M (swO O a b) 127 127))) (ty := .int) (C := RX4) (T := TX4) (N := 5) hx hb hts hF4 tyX4 tyX4_ok nmX4 hown hK hP hD hS 0 rfl rfl 2 (by decide) (hts (.fieldLink RX4 67 "CousinShares$Shares" "bestSum" "I") (List.mem_of_getElem? (i := 1) rfl)) (fun _ h9 => h9) rfl (by decide +kernel) rfl rfl (Nat.le_of_ble_eq_true rfl) dX4_findBestTrade_65 (fun H locs hP hD hS => ?_)
            have hP : va_P G.1 vwCl [(s0, .inr (4, [.int (nI a), .int (nI b), .int (nI (es M (swO O a b) 127 127)), .ref w0, .ref s1])), (s1, .inl (G.2 0, 49, .inl (nA SW))), (w0, .inr (1, fs)), (w3, .inl (G.2 0, 49, .inl (nA (cut 49 148 M)))), (w5, .inl (G.2 0, 2, .inl (nA (cut 2 197 M)))), (w6, .inl (G.2 0, 168, .inl (nA (vv M))))] _ := hP
            have hD : va_D AA [(s0, .inr (4, [.int (nI a), .int (nI b), .int (nI (es M (swO O a b) 127 127)), .ref w0, .ref s1])), (s1, .inl (G.2 0, 49, .inl (nA SW))), (w0, .inr (1, fs)), (w3, .inl (G.2 0, 49, .inl (nA (cut 49 148 M)))), (w5, .inl (G.2 0, 2, .inl (nA (cut 2 197 M)))), (w6, .inl (G.2 0, 168, .inl (nA (vv M))))] := hD
            refine nr_inc (d := 1) (v := b + 1) (lv' := [(3, .int (nI (b + 1))), (1, .int (nI 1)), (4, .int (nI (es M (swO O a b) 127 127))), (0, .ref s0), (2, .int (nI a))]) hx hb dX4_findBestTrade_68 hl (k := 4) rfl rfl (by decide) rfl (fun ls hl => ?_)
            refine lv_goto (tgt := 14) hx hb dX4_findBestTrade_71 (by decide) ?_
            have efx : bsf M O (7 * a + (b + 1)) = (10 * a + b, es M (swO O a b) 127 127) := by rw [bsf_t M O (by omega) (by omega), if_pos h7, if_pos (Or.inr (Nat.lt_of_not_le h11))]
            exact ih4 (b + 1) ls H locs (by show lv_has ls 5 [(0, .ref s0), (1, .int (nI (bb (¬ (bsf M O (7 * a + (b + 1))).1 = 0)))), (2, .int (nI a)), (3, .int (nI (b + 1)))]; rw [efx, bb_t (show ¬ (10 * a + b, es M (swO O a b) 127 127).1 = 0 by dsimp only; omega)]; exact lv_sub hl [3, 1, 4, 0] rfl) (by show va_P G.1 vwCl [(s0, .inr (4, [.int (nI (fbA (bsf M O (7 * a + (b + 1))) bf)), .int (nI (fbB (bsf M O (7 * a + (b + 1))) bs)), .int (nI (fbC (bsf M O (7 * a + (b + 1))) bm)), .ref w0, .ref s1])), (s1, .inl (G.2 0, 49, .inl (nA SW))), (w0, .inr (1, fs)), (w3, .inl (G.2 0, 49, .inl (nA (cut 49 148 M)))), (w5, .inl (G.2 0, 2, .inl (nA (cut 2 197 M)))), (w6, .inl (G.2 0, 168, .inl (nA (vv M))))] H; rw [efx, fbA_u (by omega) (by omega), fbB_u (by omega) (by omega), fbC_u (by omega)]; exact hP) (by show va_D AA [(s0, .inr (4, [.int (nI (fbA (bsf M O (7 * a + (b + 1))) bf)), .int (nI (fbB (bsf M O (7 * a + (b + 1))) bs)), .int (nI (fbC (bsf M O (7 * a + (b + 1))) bm)), .ref w0, .ref s1])), (s1, .inl (G.2 0, 49, .inl (nA SW))), (w0, .inr (1, fs)), (w3, .inl (G.2 0, 49, .inl (nA (cut 49 148 M)))), (w5, .inl (G.2 0, 2, .inl (nA (cut 2 197 M)))), (w6, .inl (G.2 0, 168, .inl (nA (vv M))))]; rw [efx, fbA_u (by omega) (by omega), fbB_u (by omega) (by omega), fbC_u (by omega)]; exact hD) hS ⟨by omega, by omega⟩ (by omega))
