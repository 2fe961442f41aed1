set_option maxHeartbeats 4000000 in
set_option maxRecDepth 100000 in
theorem c_X6_round (l : Launch) (G : gG) (z0 : Nat) (z1 : Nat) (fs : List Value) (M : Nat → Nat) (z5 : Nat) (Od : Nat → Nat) (p : Nat) (a : Nat) (left : Nat) (hf0 : fs[0]? = some (.ref z1)) (hf7 : fs[7]? = some (.ref z5)) (h0 : ok M) (hp : p ≤ 202) (ha : a ≤ 24) (hleft : left < 128) (hOd : ∀ k, k < 7 → Od k < 7) (sz : Nat) : Met l yX6_round wsX6_round ({ frames := 3, cells := 0, slots := 0, locals := 74 } : Room) (WR G [(z0, .inr (6, fs)), (z1, .inl (G.2 0, 404, .inl (nA M))), (z5, .inl (G.2 0, 7, .inl (nA Od)))] sz [.ref z0, .int (nI p), .int (nI a), .int (nI left)]) (va_Qi (fun (r : Int32) (_ : Unit) => r = nI (10 * (rst M Od a left 7).2.1 + (rst M Od a left 7).1) ∧ (True)) (WB G (va_A [(z0, .inr (6, fs)), (z1, .inl (G.2 0, 404, .inl (nA M))), (z5, .inl (G.2 0, 7, .inl (nA Od)))] sz) (fun _ : Unit => [(z0, .inr (6, fs)), (z1, .inl (G.2 0, 404, .inl (nA (md M p (rst M Od a left 7).2.2.1 (rst M Od a left 7).2.2.2)))), (z5, .inl (G.2 0, 7, .inl (nA Od)))])) (va_A [(z0, .inr (6, fs)), (z1, .inl (G.2 0, 404, .inl (nA M))), (z5, .inl (G.2 0, 7, .inl (nA Od)))] sz)) 0 0 (va_A [(z0, .inr (6, fs)), (z1, .inl (G.2 0, 404, .inl (nA M))), (z5, .inl (G.2 0, 7, .inl (nA Od)))] sz) := wrM (Qf := fun AA => va_Qi (fun (r : Int32) (_ : Unit) => r = nI (10 * (rst M Od a left 7).2.1 + (rst M Od a left 7).1) ∧ (True)) (WB G AA (fun _ : Unit => [(z0, .inr (6, fs)), (z1, .inl (G.2 0, 404, .inl (nA (md M p (rst M Od a left 7).2.2.1 (rst M Od a left 7).2.2.2)))), (z5, .inl (G.2 0, 7, .inl (nA Od)))])) AA) (C := RX6) rfl (by decide) rfl (Nat.le_of_ble_eq_true rfl) (fun pX eX sX mX bX meX cX ls AA hx hb hr hts hown hlk hml hin hP hK hD hAA hS hl => by
  have hl : lv_has ls 13 [(0, .ref z0), (1, .int (nI p)), (2, .int (nI a)), (3, .int (nI left))] := hl
  have hF6 : ∀ w ∈ wsX60, w ∈ wsX6_round := fun _ h => (List.mem_cons_of_mem _ (List.mem_append_right _ h))
  refine lv_iload_n hx hb dX6_round_0 rfl (lv_at hl 3 rfl) ?_
  refine rcS (As := [.int (nI left)]) ⟨hx, hb, hml, hown, hts⟩ (c_X6_ones l left (by omega)) (va_cwS 1 hts gX6_round_X6_ones rfl rfl rfl (by decide +kernel) ⟨Nat.le_of_ble_eq_true rfl, Nat.le_of_ble_eq_true rfl⟩) rfl hl.1 rfl (Nat.le_of_ble_eq_true rfl) dX6_round_1 ⟨Nat.zero_le _, Nat.zero_le _⟩ ?_
  refine lv_istore (lv' := [(4, .int (nI (on left))), (0, .ref z0), (1, .int (nI p)), (2, .int (nI a)), (3, .int (nI left))]) hx hb dX6_round_4 hl (by decide) rfl (fun ls hl => ?_)
  refine nr_bi (v := 7) hx hb dX6_round_6 (by decide +kernel) ?_
  refine lv_istore (lv' := [(5, .int (nI 7)), (4, .int (nI (on left))), (0, .ref z0), (1, .int (nI p)), (2, .int (nI a)), (3, .int (nI left))]) hx hb dX6_round_8 hl (by decide) rfl (fun ls hl => ?_)
  refine nr_const (v := 0) hx hb dX6_round_10 rfl ?_
  refine lv_istore (lv' := [(6, .int (nI 0)), (5, .int (nI 7)), (4, .int (nI (on left))), (0, .ref z0), (1, .int (nI p)), (2, .int (nI a)), (3, .int (nI left))]) hx hb dX6_round_11 hl (by decide) rfl (fun ls hl => ?_)
  refine nr_const (v := 0) hx hb dX6_round_13 rfl ?_
  refine lv_istore (lv' := [(7, .int (nI 0)), (6, .int (nI 0)), (5, .int (nI 7)), (4, .int (nI (on left))), (0, .ref z0), (1, .int (nI p)), (2, .int (nI a)), (3, .int (nI left))]) hx hb dX6_round_14 hl (by decide) rfl (fun ls hl => ?_)
  rw [← md_0 M p] at hP hD
  refine loop_w (T := Nat) (nL := 13) (fun k => k ≤ 7) (fun k => 7 - k) (fun k => [(0, .ref z0), (1, .int (nI p)), (2, .int (nI a)), (3, .int (nI left)), (4, .int (nI (on left))), (5, .int (nI ((rst M Od a left k).1))), (6, .int (nI ((rst M Od a left k).2.1))), (7, .int (nI k))]) (fun k => [(z0, .inr (6, fs)), (z1, .inl (G.2 0, 404, .inl (nA (md M p (rst M Od a left k).2.2.1 (rst M Od a left k).2.2.2)))), (z5, .inl (G.2 0, 7, .inl (nA Od)))]) ?_ 0 (lv_sub hl [4, 5, 6, 7, 3, 2, 1, 0] rfl) hP hD hS (by omega)
  intro k ls H locs hl hP hD hS hi2 ih1
  have hi2_0 := hi2
  have hi2_0 : k ≤ 7 := hi2_0
  have hl : lv_has ls 13 [(0, .ref z0), (1, .int (nI p)), (2, .int (nI a)), (3, .int (nI left)), (4, .int (nI (on left))), (5, .int (nI ((rst M Od a left k).1))), (6, .int (nI ((rst M Od a left k).2.1))), (7, .int (nI k))] := hl
  have hP : va_P G.1 vwCl [(z0, .inr (6, fs)), (z1, .inl (G.2 0, 404, .inl (nA (md M p (rst M Od a left k).2.2.1 (rst M Od a left k).2.2.2)))), (z5, .inl (G.2 0, 7, .inl (nA Od)))] _ := hP
  have hD : va_D AA [(z0, .inr (6, fs)), (z1, .inl (G.2 0, 404, .inl (nA (md M p (rst M Od a left k).2.2.1 (rst M Od a left k).2.2.2)))), (z5, .inl (G.2 0, 7, .inl (nA Od)))] := hD
  have hri := rst_i (M := M) (left := left) hOd ha (show k ≤ 7 by omega)
  have hrt := @rst_tu M Od a left k
  have hbl := bt_lt left (Od k)
  have hag := md_ag M p (rst M Od a left k).2.2.1 (rst M Od a left k).2.2.2
  have hon := on_le left
  have hs8 := h0.2.2.2.2.2
  refine lv_iload hx hb dX6_round_16 (lv_at hl 7 rfl) ?_
  refine nr_bi (v := 7) hx hb dX6_round_18 (by decide +kernel) ?_
  refine br_ige (tgt := 241) hx hb dX6_round_20 (by decide) (by omega) (by decide) (fun h3 => ?_) (fun h3 => ?_)
  · skip
    refine nr_bi (v := 10) hx hb dX6_round_241 (by decide +kernel) ?_
    refine lv_iload hx hb dX6_round_243 (lv_at hl 6 rfl) ?_
    refine nr_mul hx hb dX6_round_245 ?_
    refine lv_iload hx hb dX6_round_246 (lv_at hl 5 rfl) ?_
    refine nr_add hx hb dX6_round_248 ?_
    have e2 : k = 7 := (by omega)
    subst e2
    exact wret hx hb hr hlk hK hS (()) hP hD (⟨rfl, trivial⟩) dX6_round_249
  · skip
    refine lv_aload_n hx hb dX6_round_23 rfl (lv_at hl 0 rfl) ?_
    refine va_get (D := G.1) (ci := 6) (v := .ref z5) (C := RX6) (T := TX6) (N := 9) hx hb hts hF6 hown hK hP 0 rfl rfl 7 (by decide) (hts (.fieldLink RX6 22 "CousinSharesModel" "order" "[I") (List.mem_of_getElem? (i := 1) rfl)) (fun _ h9 => h9) hf7 dX6_round_24 ?_
    refine lv_iload hx hb dX6_round_27 (lv_at hl 7 rfl) ?_
    refine nr_ald hx hb hK hP 2 rfl (by omega) (by decide) dX6_round_29 ?_
    refine lv_istore (lv' := [(8, .int (nI (Od k))), (0, .ref z0), (1, .int (nI p)), (2, .int (nI a)), (3, .int (nI left)), (4, .int (nI (on left))), (5, .int (nI ((rst M Od a left k).1))), (6, .int (nI ((rst M Od a left k).2.1))), (7, .int (nI k))]) hx hb dX6_round_30 hl (by decide) rfl (fun ls hl => ?_)
    have hO1 := hOd k (by omega)
    have hfp := fp_le (M := M) (c := Od k) (n := on left) ha
    refine lv_iload_n hx hb dX6_round_32 rfl (lv_at hl 4 rfl) ?_
    refine lv_iload hx hb dX6_round_33 (lv_at hl 0 rfl) ?_
    refine lv_ishr hx hb dX6_round_35 ?_
    refine nr_const (v := 1) hx hb dX6_round_36 rfl ?_
    refine lv_iand hx hb dX6_round_37 ?_
    refine nr_top (bt_shr (by omega) (by omega)) ?_
    refine nr_const (v := 1) hx hb dX6_round_38 rfl ?_
    refine br_ine (tgt := 235) hx hb dX6_round_39 (by decide) (by omega) (by decide) (fun h4 => ?_) (fun h4 => ?_)
    · skip
      refine nr_inc (d := 1) (v := k + 1) (lv' := [(7, .int (nI (k + 1))), (8, .int (nI (Od k))), (0, .ref z0), (1, .int (nI p)), (2, .int (nI a)), (3, .int (nI left)), (4, .int (nI (on left))), (5, .int (nI ((rst M Od a left k).1))), (6, .int (nI ((rst M Od a left k).2.1)))]) hx hb dX6_round_235 hl (k := 8) rfl rfl (by decide) rfl (fun ls hl => ?_)
      refine lv_goto (tgt := 16) hx hb dX6_round_238 (by decide) ?_
      have efx : rst M Od a left (k + 1) = rst M Od a left k := by rw [rst_s, if_neg h4]
      exact ih1 (k + 1) ls H locs (by show lv_has ls 13 [(0, .ref z0), (1, .int (nI p)), (2, .int (nI a)), (3, .int (nI left)), (4, .int (nI (on left))), (5, .int (nI ((rst M Od a left (k + 1)).1))), (6, .int (nI ((rst M Od a left (k + 1)).2.1))), (7, .int (nI (k + 1)))]; rw [efx]; exact lv_sub hl [2, 3, 4, 5, 6, 7, 8, 0] rfl) (by show va_P G.1 vwCl [(z0, .inr (6, fs)), (z1, .inl (G.2 0, 404, .inl (nA (md M p (rst M Od a left (k + 1)).2.2.1 (rst M Od a left (k + 1)).2.2.2)))), (z5, .inl (G.2 0, 7, .inl (nA Od)))] H; rw [efx]; exact hP) (by show va_D AA [(z0, .inr (6, fs)), (z1, .inl (G.2 0, 404, .inl (nA (md M p (rst M Od a left (k + 1)).2.2.1 (rst M Od a left (k + 1)).2.2.2)))), (z5, .inl (G.2 0, 7, .inl (nA Od)))]; rw [efx]; exact hD) hS (by omega) (by omega)
    · skip
      have hon1 := on_d left hleft (Od k) hO1 (by assumption)
      refine lv_aload_n hx hb dX6_round_42 rfl (lv_at hl 1 rfl) ?_
      refine lv_iload hx hb dX6_round_43 (lv_at hl 0 rfl) ?_
      refine lv_iload_n hx hb dX6_round_45 rfl (lv_at hl 3 rfl) ?_
      refine lv_iload hx hb dX6_round_46 (lv_at hl 5 rfl) ?_
      refine rcV (As := [.int (nI (Od k)), .int (nI a), .int (nI (on left))]) (wl := [(z0, .inr (6, fs)), (z1, .inl (G.2 0, 404, .inl (nA (md M p (rst M Od a left k).2.2.1 (rst M Od a left k).2.2.2))))]) ⟨hx, hb, hml, hown, hts⟩ (c_X6_fair l G z0 z1 fs (md M p (rst M Od a left k).2.2.1 (rst M Od a left k).2.2.2) (Od k) a (on left) hf0 (md_ok h0 _ _ _) (by omega) (by omega) (by omega) (by omega)) (cwV 3 hts gX6_round_X6_fair rfl rfl rfl (by decide +kernel) ⟨Nat.le_of_ble_eq_true rfl, Nat.le_of_ble_eq_true rfl⟩) hK (hP.sub [0, 1] rfl) 6 0 rfl rfl rfl hl.1 rfl (Nat.le_of_ble_eq_true rfl) dX6_round_48 ⟨Nat.zero_le _, Nat.zero_le _⟩ ?_
      refine nr_top (y := nI (fp M (Od k) (on left) a)) (congrArg nI (ag_fp hag (hOd k (by omega)) ha).symm) ?_
      refine lv_istore (lv' := [(9, .int (nI (fp M (Od k) (on left) a))), (8, .int (nI (Od k))), (0, .ref z0), (1, .int (nI p)), (2, .int (nI a)), (3, .int (nI left)), (4, .int (nI (on left))), (5, .int (nI ((rst M Od a left k).1))), (6, .int (nI ((rst M Od a left k).2.1))), (7, .int (nI k))]) hx hb dX6_round_51 hl (by decide) rfl (fun ls hl => ?_)
      refine lv_iload hx hb dX6_round_53 (lv_at hl 7 rfl) ?_
      refine nr_bi (v := 7) hx hb dX6_round_55 (by decide +kernel) ?_
      refine join_v (T := Nat) (J := 65) (nL := 13) (fun v => [(9, .int (nI (fp M (Od k) (on left) a))), (8, .int (nI (Od k))), (0, .ref z0), (1, .int (nI p)), (2, .int (nI a)), (3, .int (nI left)), (4, .int (nI (on left))), (5, .int (nI ((rst M Od a left k).1))), (6, .int (nI ((rst M Od a left k).2.1))), (7, .int (nI k))]) (fun v => [.int (nI v)]) (fun v => v = bb (((rst M Od a left k).1) = 7)) ?_ (fun jj5 => ?_)
      · intro v ls hl hv6
        subst hv6
        refine lv_istore (lv' := [(10, .int (nI (bb (((rst M Od a left k).1) = 7)))), (9, .int (nI (fp M (Od k) (on left) a))), (8, .int (nI (Od k))), (0, .ref z0), (1, .int (nI p)), (2, .int (nI a)), (3, .int (nI left)), (4, .int (nI (on left))), (5, .int (nI ((rst M Od a left k).1))), (6, .int (nI ((rst M Od a left k).2.1))), (7, .int (nI k))]) hx hb dX6_round_65 hl (by decide) rfl (fun ls hl => ?_)
        refine lv_iload hx hb dX6_round_67 (lv_at hl 0 rfl) ?_
        refine join_v (T := Nat) (J := 84) (nL := 13) (fun v => [(10, .int (nI (bb (((rst M Od a left k).1) = 7)))), (9, .int (nI (fp M (Od k) (on left) a))), (8, .int (nI (Od k))), (0, .ref z0), (1, .int (nI p)), (2, .int (nI a)), (3, .int (nI left)), (4, .int (nI (on left))), (5, .int (nI ((rst M Od a left k).1))), (6, .int (nI ((rst M Od a left k).2.1))), (7, .int (nI k))]) (fun v => [.int (nI v)]) (fun v => v = bb (¬ (((rst M Od a left k).1) = 7) ∧ (¬ (((rst M Od a left k).2.1) ≤ (fp M (Od k) (on left) a))))) ?_ (fun jj7 => ?_)
        · intro v ls hl hv8
          subst hv8
          refine lv_istore (lv' := [(11, .int (nI (bb (¬ (((rst M Od a left k).1) = 7) ∧ (¬ (((rst M Od a left k).2.1) ≤ (fp M (Od k) (on left) a))))))), (10, .int (nI (bb (((rst M Od a left k).1) = 7)))), (9, .int (nI (fp M (Od k) (on left) a))), (8, .int (nI (Od k))), (0, .ref z0), (1, .int (nI p)), (2, .int (nI a)), (3, .int (nI left)), (4, .int (nI (on left))), (5, .int (nI ((rst M Od a left k).1))), (6, .int (nI ((rst M Od a left k).2.1))), (7, .int (nI k))]) hx hb dX6_round_84 hl (by decide) rfl (fun ls hl => ?_)
          refine lv_iload hx hb dX6_round_86 (lv_at hl 1 rfl) ?_
          refine join_v (T := Nat) (J := 127) (nL := 13) (fun v => [(11, .int (nI (bb (¬ (((rst M Od a left k).1) = 7) ∧ (¬ (((rst M Od a left k).2.1) ≤ (fp M (Od k) (on left) a))))))), (10, .int (nI (bb (((rst M Od a left k).1) = 7)))), (9, .int (nI (fp M (Od k) (on left) a))), (8, .int (nI (Od k))), (0, .ref z0), (1, .int (nI p)), (2, .int (nI a)), (3, .int (nI left)), (4, .int (nI (on left))), (5, .int (nI ((rst M Od a left k).1))), (6, .int (nI ((rst M Od a left k).2.1))), (7, .int (nI k))]) (fun v => [.int (nI v)]) (fun v => v = bb (¬ (((rst M Od a left k).1) = 7) ∧ (((fp M (Od k) (on left) a) = ((rst M Od a left k).2.1)) ∧ (¬ ((fp M (Od k) (on left) a) = 0) ∧ (¬ ((gr M (Od k) (rst M Od a left k).1) < (M 198))))))) ?_ (fun jj9 => ?_)
          · intro v ls hl hv10
            subst hv10
            refine lv_istore (lv' := [(12, .int (nI (bb (¬ (((rst M Od a left k).1) = 7) ∧ (((fp M (Od k) (on left) a) = ((rst M Od a left k).2.1)) ∧ (¬ ((fp M (Od k) (on left) a) = 0) ∧ (¬ ((gr M (Od k) (rst M Od a left k).1) < (M 198))))))))), (11, .int (nI (bb (¬ (((rst M Od a left k).1) = 7) ∧ (¬ (((rst M Od a left k).2.1) ≤ (fp M (Od k) (on left) a))))))), (10, .int (nI (bb (((rst M Od a left k).1) = 7)))), (9, .int (nI (fp M (Od k) (on left) a))), (8, .int (nI (Od k))), (0, .ref z0), (1, .int (nI p)), (2, .int (nI a)), (3, .int (nI left)), (4, .int (nI (on left))), (5, .int (nI ((rst M Od a left k).1))), (6, .int (nI ((rst M Od a left k).2.1))), (7, .int (nI k))]) hx hb dX6_round_127 hl (by decide) rfl (fun ls hl => ?_)
            refine lv_iload hx hb dX6_round_129 (lv_at hl 2 rfl) ?_
            refine join_v (T := Nat) (J := 158) (nL := 13) (fun v => [(12, .int (nI (bb (¬ (((rst M Od a left k).1) = 7) ∧ (((fp M (Od k) (on left) a) = ((rst M Od a left k).2.1)) ∧ (¬ ((fp M (Od k) (on left) a) = 0) ∧ (¬ ((gr M (Od k) (rst M Od a left k).1) < (M 198))))))))), (11, .int (nI (bb (¬ (((rst M Od a left k).1) = 7) ∧ (¬ (((rst M Od a left k).2.1) ≤ (fp M (Od k) (on left) a))))))), (10, .int (nI (bb (((rst M Od a left k).1) = 7)))), (9, .int (nI (fp M (Od k) (on left) a))), (8, .int (nI (Od k))), (0, .ref z0), (1, .int (nI p)), (2, .int (nI a)), (3, .int (nI left)), (4, .int (nI (on left))), (5, .int (nI ((rst M Od a left k).1))), (6, .int (nI ((rst M Od a left k).2.1))), (7, .int (nI k))]) (fun v => [.int (nI v)]) (fun v => v = (if ((rst M Od a left k).1) = 7 then (fp M (Od k) (on left) a) else (if ¬ (((rst M Od a left k).1) = 7) ∧ (¬ (((rst M Od a left k).2.1) ≤ (fp M (Od k) (on left) a))) then (fp M (Od k) (on left) a) else (if ¬ (((rst M Od a left k).1) = 7) ∧ (((fp M (Od k) (on left) a) = ((rst M Od a left k).2.1)) ∧ (¬ ((fp M (Od k) (on left) a) = 0) ∧ (¬ ((gr M (Od k) (rst M Od a left k).1) < (M 198))))) then ((fp M (Od k) (on left) a) - 1) else ((rst M Od a left k).2.1))))) ?_ (fun jj11 => ?_)
            · intro v ls hl hv12
              subst hv12
              refine lv_istore (lv' := [(6, .int (nI (if ((rst M Od a left k).1) = 7 then (fp M (Od k) (on left) a) else (if ¬ (((rst M Od a left k).1) = 7) ∧ (¬ (((rst M Od a left k).2.1) ≤ (fp M (Od k) (on left) a))) then (fp M (Od k) (on left) a) else (if ¬ (((rst M Od a left k).1) = 7) ∧ (((fp M (Od k) (on left) a) = ((rst M Od a left k).2.1)) ∧ (¬ ((fp M (Od k) (on left) a) = 0) ∧ (¬ ((gr M (Od k) (rst M Od a left k).1) < (M 198))))) then ((fp M (Od k) (on left) a) - 1) else ((rst M Od a left k).2.1)))))), (12, .int (nI (bb (¬ (((rst M Od a left k).1) = 7) ∧ (((fp M (Od k) (on left) a) = ((rst M Od a left k).2.1)) ∧ (¬ ((fp M (Od k) (on left) a) = 0) ∧ (¬ ((gr M (Od k) (rst M Od a left k).1) < (M 198))))))))), (11, .int (nI (bb (¬ (((rst M Od a left k).1) = 7) ∧ (¬ (((rst M Od a left k).2.1) ≤ (fp M (Od k) (on left) a))))))), (10, .int (nI (bb (((rst M Od a left k).1) = 7)))), (9, .int (nI (fp M (Od k) (on left) a))), (8, .int (nI (Od k))), (0, .ref z0), (1, .int (nI p)), (2, .int (nI a)), (3, .int (nI left)), (4, .int (nI (on left))), (5, .int (nI ((rst M Od a left k).1))), (7, .int (nI k))]) hx hb dX6_round_158 hl (by decide) rfl (fun ls hl => ?_)
              refine lv_iload hx hb dX6_round_160 (lv_at hl 3 rfl) ?_
              refine join_v (T := Nat) (J := 182) (nL := 13) (fun v => [(6, .int (nI (if ((rst M Od a left k).1) = 7 then (fp M (Od k) (on left) a) else (if ¬ (((rst M Od a left k).1) = 7) ∧ (¬ (((rst M Od a left k).2.1) ≤ (fp M (Od k) (on left) a))) then (fp M (Od k) (on left) a) else (if ¬ (((rst M Od a left k).1) = 7) ∧ (((fp M (Od k) (on left) a) = ((rst M Od a left k).2.1)) ∧ (¬ ((fp M (Od k) (on left) a) = 0) ∧ (¬ ((gr M (Od k) (rst M Od a left k).1) < (M 198))))) then ((fp M (Od k) (on left) a) - 1) else ((rst M Od a left k).2.1)))))), (12, .int (nI (bb (¬ (((rst M Od a left k).1) = 7) ∧ (((fp M (Od k) (on left) a) = ((rst M Od a left k).2.1)) ∧ (¬ ((fp M (Od k) (on left) a) = 0) ∧ (¬ ((gr M (Od k) (rst M Od a left k).1) < (M 198))))))))), (11, .int (nI (bb (¬ (((rst M Od a left k).1) = 7) ∧ (¬ (((rst M Od a left k).2.1) ≤ (fp M (Od k) (on left) a))))))), (10, .int (nI (bb (((rst M Od a left k).1) = 7)))), (9, .int (nI (fp M (Od k) (on left) a))), (8, .int (nI (Od k))), (0, .ref z0), (1, .int (nI p)), (2, .int (nI a)), (3, .int (nI left)), (4, .int (nI (on left))), (5, .int (nI ((rst M Od a left k).1))), (7, .int (nI k))]) (fun v => [.int (nI v)]) (fun v => v = (if ((rst M Od a left k).1) = 7 then (Od k) else (if ¬ (((rst M Od a left k).1) = 7) ∧ (¬ (((rst M Od a left k).2.1) ≤ (fp M (Od k) (on left) a))) then (Od k) else (if ¬ (((rst M Od a left k).1) = 7) ∧ (((fp M (Od k) (on left) a) = ((rst M Od a left k).2.1)) ∧ (¬ ((fp M (Od k) (on left) a) = 0) ∧ (¬ ((gr M (Od k) (rst M Od a left k).1) < (M 198))))) then (Od k) else ((rst M Od a left k).1))))) ?_ (fun jj13 => ?_)
              · intro v ls hl hv14
                subst hv14
                refine lv_istore (lv' := [(5, .int (nI (if ((rst M Od a left k).1) = 7 then (Od k) else (if ¬ (((rst M Od a left k).1) = 7) ∧ (¬ (((rst M Od a left k).2.1) ≤ (fp M (Od k) (on left) a))) then (Od k) else (if ¬ (((rst M Od a left k).1) = 7) ∧ (((fp M (Od k) (on left) a) = ((rst M Od a left k).2.1)) ∧ (¬ ((fp M (Od k) (on left) a) = 0) ∧ (¬ ((gr M (Od k) (rst M Od a left k).1) < (M 198))))) then (Od k) else ((rst M Od a left k).1)))))), (6, .int (nI (if ((rst M Od a left k).1) = 7 then (fp M (Od k) (on left) a) else (if ¬ (((rst M Od a left k).1) = 7) ∧ (¬ (((rst M Od a left k).2.1) ≤ (fp M (Od k) (on left) a))) then (fp M (Od k) (on left) a) else (if ¬ (((rst M Od a left k).1) = 7) ∧ (((fp M (Od k) (on left) a) = ((rst M Od a left k).2.1)) ∧ (¬ ((fp M (Od k) (on left) a) = 0) ∧ (¬ ((gr M (Od k) (rst M Od a left k).1) < (M 198))))) then ((fp M (Od k) (on left) a) - 1) else ((rst M Od a left k).2.1)))))), (12, .int (nI (bb (¬ (((rst M Od a left k).1) = 7) ∧ (((fp M (Od k) (on left) a) = ((rst M Od a left k).2.1)) ∧ (¬ ((fp M (Od k) (on left) a) = 0) ∧ (¬ ((gr M (Od k) (rst M Od a left k).1) < (M 198))))))))), (11, .int (nI (bb (¬ (((rst M Od a left k).1) = 7) ∧ (¬ (((rst M Od a left k).2.1) ≤ (fp M (Od k) (on left) a))))))), (10, .int (nI (bb (((rst M Od a left k).1) = 7)))), (9, .int (nI (fp M (Od k) (on left) a))), (8, .int (nI (Od k))), (0, .ref z0), (1, .int (nI p)), (2, .int (nI a)), (3, .int (nI left)), (4, .int (nI (on left))), (7, .int (nI k))]) hx hb dX6_round_182 hl (by decide) rfl (fun ls hl => ?_)
                refine lv_aload_n hx hb dX6_round_184 rfl (lv_at hl 7 rfl) ?_
                refine va_get (D := G.1) (ci := 6) (v := .ref z1) (C := RX6) (T := TX6) (N := 9) hx hb hts hF6 hown hK hP 0 rfl rfl 0 (by decide) (hts (.fieldLink RX6 7 "CousinSharesModel" "s" "[I") (List.mem_of_getElem? (i := 2) rfl)) (fun _ h9 => h9) hf0 dX6_round_185 ?_
                refine lv_iload_n hx hb dX6_round_188 rfl (lv_at hl 8 rfl) ?_
                refine nr_si (v := 199) hx hb dX6_round_189 (by decide +kernel) ?_
                refine nr_add hx hb dX6_round_192 ?_
                refine lv_dup2_11 hx hb dX6_round_193 rfl rfl ?_
                refine nr_ald hx hb hK hP 1 rfl (by omega) (by decide) dX6_round_194 ?_
                refine lv_iload hx hb dX6_round_195 (lv_at hl 3 rfl) ?_
                refine join_v (T := Nat) (J := 210) (nL := 13) (fun v => [(5, .int (nI (if ((rst M Od a left k).1) = 7 then (Od k) else (if ¬ (((rst M Od a left k).1) = 7) ∧ (¬ (((rst M Od a left k).2.1) ≤ (fp M (Od k) (on left) a))) then (Od k) else (if ¬ (((rst M Od a left k).1) = 7) ∧ (((fp M (Od k) (on left) a) = ((rst M Od a left k).2.1)) ∧ (¬ ((fp M (Od k) (on left) a) = 0) ∧ (¬ ((gr M (Od k) (rst M Od a left k).1) < (M 198))))) then (Od k) else ((rst M Od a left k).1)))))), (6, .int (nI (if ((rst M Od a left k).1) = 7 then (fp M (Od k) (on left) a) else (if ¬ (((rst M Od a left k).1) = 7) ∧ (¬ (((rst M Od a left k).2.1) ≤ (fp M (Od k) (on left) a))) then (fp M (Od k) (on left) a) else (if ¬ (((rst M Od a left k).1) = 7) ∧ (((fp M (Od k) (on left) a) = ((rst M Od a left k).2.1)) ∧ (¬ ((fp M (Od k) (on left) a) = 0) ∧ (¬ ((gr M (Od k) (rst M Od a left k).1) < (M 198))))) then ((fp M (Od k) (on left) a) - 1) else ((rst M Od a left k).2.1)))))), (12, .int (nI (bb (¬ (((rst M Od a left k).1) = 7) ∧ (((fp M (Od k) (on left) a) = ((rst M Od a left k).2.1)) ∧ (¬ ((fp M (Od k) (on left) a) = 0) ∧ (¬ ((gr M (Od k) (rst M Od a left k).1) < (M 198))))))))), (11, .int (nI (bb (¬ (((rst M Od a left k).1) = 7) ∧ (¬ (((rst M Od a left k).2.1) ≤ (fp M (Od k) (on left) a))))))), (10, .int (nI (bb (((rst M Od a left k).1) = 7)))), (9, .int (nI (fp M (Od k) (on left) a))), (8, .int (nI (Od k))), (0, .ref z0), (1, .int (nI p)), (2, .int (nI a)), (3, .int (nI left)), (4, .int (nI (on left))), (7, .int (nI k))]) (fun v => [.int (nI v), .int (nI ((md M p (rst M Od a left k).2.2.1 (rst M Od a left k).2.2.2) (p + 199))), .int (nI (p + 199)), .ref z1]) (fun v => v = bb ((¬ (((rst M Od a left k).1) = 7) ∧ (¬ (((rst M Od a left k).2.1) ≤ (fp M (Od k) (on left) a)))) ∨ (¬ (((rst M Od a left k).1) = 7) ∧ (((fp M (Od k) (on left) a) = ((rst M Od a left k).2.1)) ∧ (¬ ((fp M (Od k) (on left) a) = 0) ∧ (¬ ((gr M (Od k) (rst M Od a left k).1) < (M 198)))))))) ?_ (fun jj15 => ?_)
                · intro v ls hl hv16
                  subst hv16
                  refine nr_add hx hb dX6_round_210 ?_
                  refine nr_ast (ws' := [(z0, .inr (6, fs)), (z1, .inl (G.2 0, 404, .inl (nA (va_up (md M p (rst M Od a left k).2.2.1 (rst M Od a left k).2.2.2) (p + 199) (((md M p (rst M Od a left k).2.2.1 (rst M Od a left k).2.2.2) (p + 199)) + (bb ((¬ (((rst M Od a left k).1) = 7) ∧ (¬ (((rst M Od a left k).2.1) ≤ (fp M (Od k) (on left) a)))) ∨ (¬ (((rst M Od a left k).1) = 7) ∧ (((fp M (Od k) (on left) a) = ((rst M Od a left k).2.1)) ∧ (¬ ((fp M (Od k) (on left) a) = 0) ∧ (¬ ((gr M (Od k) (rst M Od a left k).1) < (M 198))))))))))))), (z5, .inl (G.2 0, 7, .inl (nA Od)))]) hx hb hK hP hD hS 1 rfl (by omega) (by decide) dX6_round_211 rfl (fun H locs hP hD hS => ?_)
                  rw [md_1] at hP hD
                  have hP : va_P G.1 vwCl [(z0, .inr (6, fs)), (z1, .inl (G.2 0, 404, .inl (nA (md M p ((rst M Od a left k).2.2.1 + (bb ((¬ (((rst M Od a left k).1) = 7) ∧ (¬ (((rst M Od a left k).2.1) ≤ (fp M (Od k) (on left) a)))) ∨ (¬ (((rst M Od a left k).1) = 7) ∧ (((fp M (Od k) (on left) a) = ((rst M Od a left k).2.1)) ∧ (¬ ((fp M (Od k) (on left) a) = 0) ∧ (¬ ((gr M (Od k) (rst M Od a left k).1) < (M 198))))))))) ((rst M Od a left k).2.2.2))))), (z5, .inl (G.2 0, 7, .inl (nA Od)))] _ := hP
                  have hD : va_D AA [(z0, .inr (6, fs)), (z1, .inl (G.2 0, 404, .inl (nA (md M p ((rst M Od a left k).2.2.1 + (bb ((¬ (((rst M Od a left k).1) = 7) ∧ (¬ (((rst M Od a left k).2.1) ≤ (fp M (Od k) (on left) a)))) ∨ (¬ (((rst M Od a left k).1) = 7) ∧ (((fp M (Od k) (on left) a) = ((rst M Od a left k).2.1)) ∧ (¬ ((fp M (Od k) (on left) a) = 0) ∧ (¬ ((gr M (Od k) (rst M Od a left k).1) < (M 198))))))))) ((rst M Od a left k).2.2.2))))), (z5, .inl (G.2 0, 7, .inl (nA Od)))] := hD
                  refine lv_aload_n hx hb dX6_round_212 rfl (lv_at hl 7 rfl) ?_
                  refine va_get (D := G.1) (ci := 6) (v := .ref z1) (C := RX6) (T := TX6) (N := 9) hx hb hts hF6 hown hK hP 0 rfl rfl 0 (by decide) (hts (.fieldLink RX6 7 "CousinSharesModel" "s" "[I") (List.mem_of_getElem? (i := 2) rfl)) (fun _ h9 => h9) hf0 dX6_round_213 ?_
                  refine lv_iload_n hx hb dX6_round_216 rfl (lv_at hl 8 rfl) ?_
                  refine nr_si (v := 200) hx hb dX6_round_217 (by decide +kernel) ?_
                  refine nr_add hx hb dX6_round_220 ?_
                  refine lv_dup2_11 hx hb dX6_round_221 rfl rfl ?_
                  refine nr_ald hx hb hK hP 1 rfl (by omega) (by decide) dX6_round_222 ?_
                  refine lv_iload hx hb dX6_round_223 (lv_at hl 2 rfl) ?_
                  refine join_v (T := Nat) (J := 233) (nL := 13) (fun v => [(5, .int (nI (if ((rst M Od a left k).1) = 7 then (Od k) else (if ¬ (((rst M Od a left k).1) = 7) ∧ (¬ (((rst M Od a left k).2.1) ≤ (fp M (Od k) (on left) a))) then (Od k) else (if ¬ (((rst M Od a left k).1) = 7) ∧ (((fp M (Od k) (on left) a) = ((rst M Od a left k).2.1)) ∧ (¬ ((fp M (Od k) (on left) a) = 0) ∧ (¬ ((gr M (Od k) (rst M Od a left k).1) < (M 198))))) then (Od k) else ((rst M Od a left k).1)))))), (6, .int (nI (if ((rst M Od a left k).1) = 7 then (fp M (Od k) (on left) a) else (if ¬ (((rst M Od a left k).1) = 7) ∧ (¬ (((rst M Od a left k).2.1) ≤ (fp M (Od k) (on left) a))) then (fp M (Od k) (on left) a) else (if ¬ (((rst M Od a left k).1) = 7) ∧ (((fp M (Od k) (on left) a) = ((rst M Od a left k).2.1)) ∧ (¬ ((fp M (Od k) (on left) a) = 0) ∧ (¬ ((gr M (Od k) (rst M Od a left k).1) < (M 198))))) then ((fp M (Od k) (on left) a) - 1) else ((rst M Od a left k).2.1)))))), (12, .int (nI (bb (¬ (((rst M Od a left k).1) = 7) ∧ (((fp M (Od k) (on left) a) = ((rst M Od a left k).2.1)) ∧ (¬ ((fp M (Od k) (on left) a) = 0) ∧ (¬ ((gr M (Od k) (rst M Od a left k).1) < (M 198))))))))), (11, .int (nI (bb (¬ (((rst M Od a left k).1) = 7) ∧ (¬ (((rst M Od a left k).2.1) ≤ (fp M (Od k) (on left) a))))))), (10, .int (nI (bb (((rst M Od a left k).1) = 7)))), (9, .int (nI (fp M (Od k) (on left) a))), (8, .int (nI (Od k))), (0, .ref z0), (1, .int (nI p)), (2, .int (nI a)), (3, .int (nI left)), (4, .int (nI (on left))), (7, .int (nI k))]) (fun v => [.int (nI v), .int (nI ((md M p ((rst M Od a left k).2.2.1 + (bb ((¬ (((rst M Od a left k).1) = 7) ∧ (¬ (((rst M Od a left k).2.1) ≤ (fp M (Od k) (on left) a)))) ∨ (¬ (((rst M Od a left k).1) = 7) ∧ (((fp M (Od k) (on left) a) = ((rst M Od a left k).2.1)) ∧ (¬ ((fp M (Od k) (on left) a) = 0) ∧ (¬ ((gr M (Od k) (rst M Od a left k).1) < (M 198))))))))) ((rst M Od a left k).2.2.2)) (p + 200))), .int (nI (p + 200)), .ref z1]) (fun v => v = bb (¬ (((rst M Od a left k).1) = 7) ∧ (((fp M (Od k) (on left) a) = ((rst M Od a left k).2.1)) ∧ (¬ ((fp M (Od k) (on left) a) = 0) ∧ (¬ ((gr M (Od k) (rst M Od a left k).1) < (M 198))))))) ?_ (fun jj17 => ?_)
                  · intro v ls hl hv18
                    subst hv18
                    refine nr_add hx hb dX6_round_233 ?_
                    refine nr_ast (ws' := [(z0, .inr (6, fs)), (z1, .inl (G.2 0, 404, .inl (nA (va_up (md M p ((rst M Od a left k).2.2.1 + (bb ((¬ (((rst M Od a left k).1) = 7) ∧ (¬ (((rst M Od a left k).2.1) ≤ (fp M (Od k) (on left) a)))) ∨ (¬ (((rst M Od a left k).1) = 7) ∧ (((fp M (Od k) (on left) a) = ((rst M Od a left k).2.1)) ∧ (¬ ((fp M (Od k) (on left) a) = 0) ∧ (¬ ((gr M (Od k) (rst M Od a left k).1) < (M 198))))))))) ((rst M Od a left k).2.2.2)) (p + 200) (((md M p ((rst M Od a left k).2.2.1 + (bb ((¬ (((rst M Od a left k).1) = 7) ∧ (¬ (((rst M Od a left k).2.1) ≤ (fp M (Od k) (on left) a)))) ∨ (¬ (((rst M Od a left k).1) = 7) ∧ (((fp M (Od k) (on left) a) = ((rst M Od a left k).2.1)) ∧ (¬ ((fp M (Od k) (on left) a) = 0) ∧ (¬ ((gr M (Od k) (rst M Od a left k).1) < (M 198))))))))) ((rst M Od a left k).2.2.2)) (p + 200)) + (bb (¬ (((rst M Od a left k).1) = 7) ∧ (((fp M (Od k) (on left) a) = ((rst M Od a left k).2.1)) ∧ (¬ ((fp M (Od k) (on left) a) = 0) ∧ (¬ ((gr M (Od k) (rst M Od a left k).1) < (M 198)))))))))))), (z5, .inl (G.2 0, 7, .inl (nA Od)))]) hx hb hK hP hD hS 1 rfl (by omega) (by decide) dX6_round_234 rfl (fun H locs hP hD hS => ?_)
                    rw [md_2] at hP hD
                    have hP : va_P G.1 vwCl [(z0, .inr (6, fs)), (z1, .inl (G.2 0, 404, .inl (nA (md M p ((rst M Od a left k).2.2.1 + (bb ((¬ (((rst M Od a left k).1) = 7) ∧ (¬ (((rst M Od a left k).2.1) ≤ (fp M (Od k) (on left) a)))) ∨ (¬ (((rst M Od a left k).1) = 7) ∧ (((fp M (Od k) (on left) a) = ((rst M Od a left k).2.1)) ∧ (¬ ((fp M (Od k) (on left) a) = 0) ∧ (¬ ((gr M (Od k) (rst M Od a left k).1) < (M 198))))))))) (((rst M Od a left k).2.2.2) + (bb (¬ (((rst M Od a left k).1) = 7) ∧ (((fp M (Od k) (on left) a) = ((rst M Od a left k).2.1)) ∧ (¬ ((fp M (Od k) (on left) a) = 0) ∧ (¬ ((gr M (Od k) (rst M Od a left k).1) < (M 198)))))))))))), (z5, .inl (G.2 0, 7, .inl (nA Od)))] _ := hP
                    have hD : va_D AA [(z0, .inr (6, fs)), (z1, .inl (G.2 0, 404, .inl (nA (md M p ((rst M Od a left k).2.2.1 + (bb ((¬ (((rst M Od a left k).1) = 7) ∧ (¬ (((rst M Od a left k).2.1) ≤ (fp M (Od k) (on left) a)))) ∨ (¬ (((rst M Od a left k).1) = 7) ∧ (((fp M (Od k) (on left) a) = ((rst M Od a left k).2.1)) ∧ (¬ ((fp M (Od k) (on left) a) = 0) ∧ (¬ ((gr M (Od k) (rst M Od a left k).1) < (M 198))))))))) (((rst M Od a left k).2.2.2) + (bb (¬ (((rst M Od a left k).1) = 7) ∧ (((fp M (Od k) (on left) a) = ((rst M Od a left k).2.1)) ∧ (¬ ((fp M (Od k) (on left) a) = 0) ∧ (¬ ((gr M (Od k) (rst M Od a left k).1) < (M 198)))))))))))), (z5, .inl (G.2 0, 7, .inl (nA Od)))] := hD
                    refine nr_inc (d := 1) (v := k + 1) (lv' := [(7, .int (nI (k + 1))), (5, .int (nI (if ((rst M Od a left k).1) = 7 then (Od k) else (if ¬ (((rst M Od a left k).1) = 7) ∧ (¬ (((rst M Od a left k).2.1) ≤ (fp M (Od k) (on left) a))) then (Od k) else (if ¬ (((rst M Od a left k).1) = 7) ∧ (((fp M (Od k) (on left) a) = ((rst M Od a left k).2.1)) ∧ (¬ ((fp M (Od k) (on left) a) = 0) ∧ (¬ ((gr M (Od k) (rst M Od a left k).1) < (M 198))))) then (Od k) else ((rst M Od a left k).1)))))), (6, .int (nI (if ((rst M Od a left k).1) = 7 then (fp M (Od k) (on left) a) else (if ¬ (((rst M Od a left k).1) = 7) ∧ (¬ (((rst M Od a left k).2.1) ≤ (fp M (Od k) (on left) a))) then (fp M (Od k) (on left) a) else (if ¬ (((rst M Od a left k).1) = 7) ∧ (((fp M (Od k) (on left) a) = ((rst M Od a left k).2.1)) ∧ (¬ ((fp M (Od k) (on left) a) = 0) ∧ (¬ ((gr M (Od k) (rst M Od a left k).1) < (M 198))))) then ((fp M (Od k) (on left) a) - 1) else ((rst M Od a left k).2.1)))))), (12, .int (nI (bb (¬ (((rst M Od a left k).1) = 7) ∧ (((fp M (Od k) (on left) a) = ((rst M Od a left k).2.1)) ∧ (¬ ((fp M (Od k) (on left) a) = 0) ∧ (¬ ((gr M (Od k) (rst M Od a left k).1) < (M 198))))))))), (11, .int (nI (bb (¬ (((rst M Od a left k).1) = 7) ∧ (¬ (((rst M Od a left k).2.1) ≤ (fp M (Od k) (on left) a))))))), (10, .int (nI (bb (((rst M Od a left k).1) = 7)))), (9, .int (nI (fp M (Od k) (on left) a))), (8, .int (nI (Od k))), (0, .ref z0), (1, .int (nI p)), (2, .int (nI a)), (3, .int (nI left)), (4, .int (nI (on left)))]) hx hb dX6_round_235 hl (k := 12) rfl rfl (by decide) rfl (fun ls hl => ?_)
                    refine lv_goto (tgt := 16) hx hb dX6_round_238 (by decide) ?_
                    have efx : rst M Od a left (k + 1) = (if ((rst M Od a left k).1) = 7 then (Od k) else (if ¬ (((rst M Od a left k).1) = 7) ∧ (¬ (((rst M Od a left k).2.1) ≤ (fp M (Od k) (on left) a))) then (Od k) else (if ¬ (((rst M Od a left k).1) = 7) ∧ (((fp M (Od k) (on left) a) = ((rst M Od a left k).2.1)) ∧ (¬ ((fp M (Od k) (on left) a) = 0) ∧ (¬ ((gr M (Od k) (rst M Od a left k).1) < (M 198))))) then (Od k) else ((rst M Od a left k).1))), if ((rst M Od a left k).1) = 7 then (fp M (Od k) (on left) a) else (if ¬ (((rst M Od a left k).1) = 7) ∧ (¬ (((rst M Od a left k).2.1) ≤ (fp M (Od k) (on left) a))) then (fp M (Od k) (on left) a) else (if ¬ (((rst M Od a left k).1) = 7) ∧ (((fp M (Od k) (on left) a) = ((rst M Od a left k).2.1)) ∧ (¬ ((fp M (Od k) (on left) a) = 0) ∧ (¬ ((gr M (Od k) (rst M Od a left k).1) < (M 198))))) then ((fp M (Od k) (on left) a) - 1) else ((rst M Od a left k).2.1))), ((rst M Od a left k).2.2.1 + (bb ((¬ (((rst M Od a left k).1) = 7) ∧ (¬ (((rst M Od a left k).2.1) ≤ (fp M (Od k) (on left) a)))) ∨ (¬ (((rst M Od a left k).1) = 7) ∧ (((fp M (Od k) (on left) a) = ((rst M Od a left k).2.1)) ∧ (¬ ((fp M (Od k) (on left) a) = 0) ∧ (¬ ((gr M (Od k) (rst M Od a left k).1) < (M 198))))))))), (((rst M Od a left k).2.2.2) + (bb (¬ (((rst M Od a left k).1) = 7) ∧ (((fp M (Od k) (on left) a) = ((rst M Od a left k).2.1)) ∧ (¬ ((fp M (Od k) (on left) a) = 0) ∧ (¬ ((gr M (Od k) (rst M Od a left k).1) < (M 198))))))))) := by rw [rst_s, if_pos h4]; exact rstp_fix _ _ _ _ _ _ _ _
                    exact ih1 (k + 1) ls H locs (by show lv_has ls 13 [(0, .ref z0), (1, .int (nI p)), (2, .int (nI a)), (3, .int (nI left)), (4, .int (nI (on left))), (5, .int (nI ((rst M Od a left (k + 1)).1))), (6, .int (nI ((rst M Od a left (k + 1)).2.1))), (7, .int (nI (k + 1)))]; rw [efx]; exact lv_sub hl [8, 9, 10, 11, 12, 1, 2, 0] rfl) (by show va_P G.1 vwCl [(z0, .inr (6, fs)), (z1, .inl (G.2 0, 404, .inl (nA (md M p (rst M Od a left (k + 1)).2.2.1 (rst M Od a left (k + 1)).2.2.2)))), (z5, .inl (G.2 0, 7, .inl (nA Od)))] H; rw [efx]; exact hP) (by show va_D AA [(z0, .inr (6, fs)), (z1, .inl (G.2 0, 404, .inl (nA (md M p (rst M Od a left (k + 1)).2.2.1 (rst M Od a left (k + 1)).2.2.2)))), (z5, .inl (G.2 0, 7, .inl (nA Od)))]; rw [efx]; exact hD) hS (by omega) (by omega)
                  · skip
                    refine br_eqb (tgt := 232) hx hb dX6_round_225 (by decide) (fun h19 => ?_) (fun h19 => ?_)
                    · skip
                      refine nr_const (v := 0) hx hb dX6_round_232 rfl ?_
                      exact jj17 0 ls (lv_sub hl [0, 1, 2, 3, 4, 5, 6, 7, 8, 9, 10, 11, 12] rfl) (bb_f h19).symm
                    · skip
                      refine nr_const (v := 1) hx hb dX6_round_228 rfl ?_
                      refine lv_goto (tgt := 233) hx hb dX6_round_229 (by decide) ?_
                      exact jj17 1 ls (lv_sub hl [0, 1, 2, 3, 4, 5, 6, 7, 8, 9, 10, 11, 12] rfl) (bb_t h19).symm
                · skip
                  refine br_neb (tgt := 205) hx hb dX6_round_197 (by decide) (fun h20 => ?_) (fun h20 => ?_)
                  · skip
                    refine nr_const (v := 1) hx hb dX6_round_205 rfl ?_
                    refine lv_goto (tgt := 210) hx hb dX6_round_206 (by decide) ?_
                    exact jj15 1 ls (lv_sub hl [0, 1, 2, 3, 4, 5, 6, 7, 8, 9, 10, 11, 12] rfl) (bb_t (Or.inl h20)).symm
                  · skip
                    refine lv_iload hx hb dX6_round_200 (lv_at hl 2 rfl) ?_
                    refine br_eqb (tgt := 209) hx hb dX6_round_202 (by decide) (fun h21 => ?_) (fun h21 => ?_)
                    · skip
                      refine nr_const (v := 0) hx hb dX6_round_209 rfl ?_
                      exact jj15 0 ls (lv_sub hl [0, 1, 2, 3, 4, 5, 6, 7, 8, 9, 10, 11, 12] rfl) (bb_f (fun q => q.elim h20 h21)).symm
                    · skip
                      refine nr_const (v := 1) hx hb dX6_round_205 rfl ?_
                      refine lv_goto (tgt := 210) hx hb dX6_round_206 (by decide) ?_
                      exact jj15 1 ls (lv_sub hl [0, 1, 2, 3, 4, 5, 6, 7, 8, 9, 10, 11, 12] rfl) (bb_t (Or.inr h21)).symm
              · skip
                refine br_neb (tgt := 175) hx hb dX6_round_162 (by decide) (fun h22 => ?_) (fun h22 => ?_)
                · skip
                  refine lv_iload hx hb dX6_round_175 (lv_at hl 5 rfl) ?_
                  refine lv_goto (tgt := 182) hx hb dX6_round_177 (by decide) ?_
                  exact jj13 (Od k) ls (lv_sub hl [0, 1, 2, 3, 4, 5, 6, 7, 8, 9, 10, 11, 12] rfl) (by simp only [if_pos h22])
                · skip
                  refine lv_iload hx hb dX6_round_165 (lv_at hl 2 rfl) ?_
                  refine br_neb (tgt := 175) hx hb dX6_round_167 (by decide) (fun h23 => ?_) (fun h23 => ?_)
                  · skip
                    refine lv_iload hx hb dX6_round_175 (lv_at hl 5 rfl) ?_
                    refine lv_goto (tgt := 182) hx hb dX6_round_177 (by decide) ?_
                    exact jj13 (Od k) ls (lv_sub hl [0, 1, 2, 3, 4, 5, 6, 7, 8, 9, 10, 11, 12] rfl) (by simp only [if_neg h22, if_pos h23])
                  · skip
                    refine lv_iload hx hb dX6_round_170 (lv_at hl 1 rfl) ?_
                    refine br_eqb (tgt := 180) hx hb dX6_round_172 (by decide) (fun h24 => ?_) (fun h24 => ?_)
                    · skip
                      refine lv_iload hx hb dX6_round_180 (lv_at hl 11 rfl) ?_
                      exact jj13 ((rst M Od a left k).1) ls (lv_sub hl [0, 1, 2, 3, 4, 5, 6, 7, 8, 9, 10, 11, 12] rfl) (by simp only [if_neg h22, if_neg h23, if_neg h24])
                    · skip
                      refine lv_iload hx hb dX6_round_175 (lv_at hl 5 rfl) ?_
                      refine lv_goto (tgt := 182) hx hb dX6_round_177 (by decide) ?_
                      exact jj13 (Od k) ls (lv_sub hl [0, 1, 2, 3, 4, 5, 6, 7, 8, 9, 10, 11, 12] rfl) (by simp only [if_neg h22, if_neg h23, if_pos h24])
            · skip
              refine br_neb (tgt := 139) hx hb dX6_round_131 (by decide) (fun h25 => ?_) (fun h25 => ?_)
              · skip
                refine lv_iload hx hb dX6_round_139 (lv_at hl 3 rfl) ?_
                refine lv_goto (tgt := 158) hx hb dX6_round_141 (by decide) ?_
                exact jj11 (fp M (Od k) (on left) a) ls (lv_sub hl [0, 1, 2, 3, 4, 5, 6, 7, 8, 9, 10, 11, 12] rfl) (by simp only [if_pos h25])
              · skip
                refine lv_iload hx hb dX6_round_134 (lv_at hl 1 rfl) ?_
                refine br_eqb (tgt := 144) hx hb dX6_round_136 (by decide) (fun h26 => ?_) (fun h26 => ?_)
                · skip
                  refine lv_iload hx hb dX6_round_144 (lv_at hl 0 rfl) ?_
                  refine br_eqb (tgt := 156) hx hb dX6_round_146 (by decide) (fun h27 => ?_) (fun h27 => ?_)
                  · skip
                    refine lv_iload hx hb dX6_round_156 (lv_at hl 11 rfl) ?_
                    exact jj11 ((rst M Od a left k).2.1) ls (lv_sub hl [0, 1, 2, 3, 4, 5, 6, 7, 8, 9, 10, 11, 12] rfl) (by simp only [if_neg h25, if_neg h26, if_neg h27])
                  · skip
                    refine lv_iload hx hb dX6_round_149 (lv_at hl 3 rfl) ?_
                    refine nr_const (v := 1) hx hb dX6_round_151 rfl ?_
                    refine nr_sub hx hb dX6_round_152 (by omega) ?_
                    refine lv_goto (tgt := 158) hx hb dX6_round_153 (by decide) ?_
                    exact jj11 ((fp M (Od k) (on left) a) - 1) ls (lv_sub hl [0, 1, 2, 3, 4, 5, 6, 7, 8, 9, 10, 11, 12] rfl) (by simp only [if_neg h25, if_neg h26, if_pos h27])
                · skip
                  refine lv_iload hx hb dX6_round_139 (lv_at hl 3 rfl) ?_
                  refine lv_goto (tgt := 158) hx hb dX6_round_141 (by decide) ?_
                  exact jj11 (fp M (Od k) (on left) a) ls (lv_sub hl [0, 1, 2, 3, 4, 5, 6, 7, 8, 9, 10, 11, 12] rfl) (by simp only [if_neg h25, if_pos h26])
          · skip
            refine br_neb (tgt := 126) hx hb dX6_round_88 (by decide) (fun h28 => ?_) (fun h28 => ?_)
            · skip
              refine nr_const (v := 0) hx hb dX6_round_126 rfl ?_
              exact jj9 0 ls (lv_sub hl [0, 1, 2, 3, 4, 5, 6, 7, 8, 9, 10, 11] rfl) (bb_f (fun q => q.1 h28)).symm
            · skip
              refine lv_iload hx hb dX6_round_91 (lv_at hl 2 rfl) ?_
              refine lv_iload hx hb dX6_round_93 (lv_at hl 10 rfl) ?_
              refine br_ine (tgt := 126) hx hb dX6_round_95 (by decide) (by omega) (by omega) (fun h29 => ?_) (fun h29 => ?_)
              · skip
                refine nr_const (v := 0) hx hb dX6_round_126 rfl ?_
                exact jj9 0 ls (lv_sub hl [0, 1, 2, 3, 4, 5, 6, 7, 8, 9, 10, 11] rfl) (bb_f (fun q => (fun q => h29 q.1) q.2)).symm
              · skip
                refine lv_iload hx hb dX6_round_98 (lv_at hl 2 rfl) ?_
                refine br_le0 (tgt := 126) hx hb dX6_round_100 (by decide) (by omega) (fun h30 => ?_) (fun h30 => ?_)
                · skip
                  refine nr_const (v := 0) hx hb dX6_round_126 rfl ?_
                  exact jj9 0 ls (lv_sub hl [0, 1, 2, 3, 4, 5, 6, 7, 8, 9, 10, 11] rfl) (bb_f (fun q => (fun q => (fun q => q.1 h30) q.2) q.2)).symm
                · skip
                  refine lv_aload_n hx hb dX6_round_103 rfl (lv_at hl 4 rfl) ?_
                  refine lv_iload hx hb dX6_round_104 (lv_at hl 3 rfl) ?_
                  refine lv_iload hx hb dX6_round_106 (lv_at hl 9 rfl) ?_
                  refine rcV (As := [.int (nI (Od k)), .int (nI ((rst M Od a left k).1))]) (wl := [(z0, .inr (6, fs)), (z1, .inl (G.2 0, 404, .inl (nA (md M p (rst M Od a left k).2.2.1 (rst M Od a left k).2.2.2))))]) ⟨hx, hb, hml, hown, hts⟩ (c_X6_grudgeOf l G z0 z1 fs (md M p (rst M Od a left k).2.2.1 (rst M Od a left k).2.2.2) (Od k) ((rst M Od a left k).1) hf0 (by omega) (by omega)) (cwV 2 hts gX6_round_X6_grudgeOf rfl rfl rfl (by decide +kernel) ⟨Nat.le_of_ble_eq_true rfl, Nat.le_of_ble_eq_true rfl⟩) hK (hP.sub [0, 1] rfl) 6 0 rfl rfl rfl hl.1 rfl (Nat.le_of_ble_eq_true rfl) dX6_round_108 ⟨Nat.zero_le _, Nat.zero_le _⟩ ?_
                  refine nr_top (y := nI (gr M (Od k) (rst M Od a left k).1)) (congrArg nI (ag_gr hag (hOd k (by omega)) (by omega)).symm) ?_
                  refine lv_aload_n hx hb dX6_round_111 rfl (lv_at hl 4 rfl) ?_
                  refine va_get (D := G.1) (ci := 6) (v := .ref z1) (C := RX6) (T := TX6) (N := 9) hx hb hts hF6 hown hK hP 0 rfl rfl 0 (by decide) (hts (.fieldLink RX6 7 "CousinSharesModel" "s" "[I") (List.mem_of_getElem? (i := 2) rfl)) (fun _ h9 => h9) hf0 dX6_round_112 ?_
                  refine nr_si (v := 198) hx hb dX6_round_115 (by decide +kernel) ?_
                  refine nr_ald hx hb hK hP 1 rfl (by omega) (by decide) dX6_round_118 ?_
                  refine nr_top (y := nI (M 198)) (congrArg nI (hag 198 (by omega) (by omega)).symm) ?_
                  refine br_ilt (tgt := 126) hx hb dX6_round_119 (by decide) (by have := gr_le h0 (hOd k (by omega)) (show (rst M Od a left k).1 < 7 by omega); omega) (by omega) (fun h31 => ?_) (fun h31 => ?_)
                  · skip
                    refine nr_const (v := 0) hx hb dX6_round_126 rfl ?_
                    exact jj9 0 ls (lv_sub hl [0, 1, 2, 3, 4, 5, 6, 7, 8, 9, 10, 11] rfl) (bb_f (fun q => (fun q => (fun q => (fun q => q h31) q.2) q.2) q.2)).symm
                  · skip
                    refine nr_const (v := 1) hx hb dX6_round_122 rfl ?_
                    refine lv_goto (tgt := 127) hx hb dX6_round_123 (by decide) ?_
                    exact jj9 1 ls (lv_sub hl [0, 1, 2, 3, 4, 5, 6, 7, 8, 9, 10, 11] rfl) (bb_t ⟨h28, ⟨h29, ⟨h30, h31⟩⟩⟩).symm
        · skip
          refine br_neb (tgt := 83) hx hb dX6_round_69 (by decide) (fun h32 => ?_) (fun h32 => ?_)
          · skip
            refine nr_const (v := 0) hx hb dX6_round_83 rfl ?_
            exact jj7 0 ls (lv_sub hl [0, 1, 2, 3, 4, 5, 6, 7, 8, 9, 10] rfl) (bb_f (fun q => q.1 h32)).symm
          · skip
            refine lv_iload hx hb dX6_round_72 (lv_at hl 1 rfl) ?_
            refine lv_iload hx hb dX6_round_74 (lv_at hl 9 rfl) ?_
            refine br_ige (tgt := 83) hx hb dX6_round_76 (by decide) (by omega) (by omega) (fun h33 => ?_) (fun h33 => ?_)
            · skip
              refine nr_const (v := 0) hx hb dX6_round_83 rfl ?_
              exact jj7 0 ls (lv_sub hl [0, 1, 2, 3, 4, 5, 6, 7, 8, 9, 10] rfl) (bb_f (fun q => (fun q => q h33) q.2)).symm
            · skip
              refine nr_const (v := 1) hx hb dX6_round_79 rfl ?_
              refine lv_goto (tgt := 84) hx hb dX6_round_80 (by decide) ?_
              exact jj7 1 ls (lv_sub hl [0, 1, 2, 3, 4, 5, 6, 7, 8, 9, 10] rfl) (bb_t ⟨h32, h33⟩).symm
      · skip
        refine br_ine (tgt := 64) hx hb dX6_round_57 (by decide) (by omega) (by decide) (fun h34 => ?_) (fun h34 => ?_)
        · skip
          refine nr_const (v := 0) hx hb dX6_round_64 rfl ?_
          exact jj5 0 ls (lv_sub hl [0, 1, 2, 3, 4, 5, 6, 7, 8, 9] rfl) (bb_f h34).symm
        · skip
          refine nr_const (v := 1) hx hb dX6_round_60 rfl ?_
          refine lv_goto (tgt := 65) hx hb dX6_round_61 (by decide) ?_
          exact jj5 1 ls (lv_sub hl [0, 1, 2, 3, 4, 5, 6, 7, 8, 9] rfl) (bb_t h34).symm)
