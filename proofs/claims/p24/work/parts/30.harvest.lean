set_option maxHeartbeats 4000000 in
set_option maxRecDepth 100000 in
theorem c_X1_worthOf (l : Launch) (G : gG) (w0 : Nat) (w6 : Nat) (fs : List Value) (M : Nat → Nat) (k : Nat) (c : Nat) (hf5 : fs[5]? = some (.ref w6)) (hk : k < 24) (hc : c < 7) : Met l yX1_worthOf wsX1_worthOf ({ frames := 0, cells := 0, slots := 0, locals := 0 } : Room) (RD G [(w0, .inr (1, fs)), (w6, .inl (G.2 0, 168, .inl (nA (vv M))))] [.ref w0, .int (nI k), .int (nI c)]) (QcRead (nI (wr M c k))) 0 0 noF := rdM (C := RX1) rfl (by decide) rfl (Nat.le_of_ble_eq_true rfl) (fun pX eX sX mX bX meX cX ls hx hb hr hts hown hlk hml hP hK hl => by
  have hl : lv_has ls 3 [(0, .ref w0), (1, .int (nI k)), (2, .int (nI c))] := hl
  have hF1 : ∀ w ∈ wsX10, w ∈ wsX1_worthOf := fun _ h => (List.mem_cons_of_mem _ (List.mem_append_right _ h))
  refine lv_aload_n hx hb dX1_worthOf_0 rfl (lv_at hl 0 rfl) ?_
  refine va_get (D := G.1) (ci := 1) (v := .ref w6) (C := RX1) (T := TX1) (N := 9) hx hb hts hF1 hown hK hP 0 rfl rfl 5 (by decide) (hts (.fieldLink RX1 27 "CousinShares$Harvest" "worths" "[I") (List.mem_of_getElem? (i := 1) rfl)) (fun _ h9 => h9) hf5 dX1_worthOf_1 ?_
  refine lv_iload_n hx hb dX1_worthOf_4 rfl (lv_at hl 1 rfl) ?_
  refine nr_bi (v := 7) hx hb dX1_worthOf_5 (by decide +kernel) ?_
  refine nr_mul hx hb dX1_worthOf_7 ?_
  refine lv_iload_n hx hb dX1_worthOf_8 rfl (lv_at hl 2 rfl) ?_
  refine nr_add hx hb dX1_worthOf_9 ?_
  refine nr_ald hx hb hK hP 1 rfl (by omega) (by decide) dX1_worthOf_10 ?_
  refine nr_top (y := nI (wr M c k)) (congrArg nI (vv_at hc hk)) ?_
  exact rret hx hb hr hlk (rfl) dX1_worthOf_11)

set_option maxHeartbeats 4000000 in
set_option maxRecDepth 100000 in
theorem c_X1_worthFrom (l : Launch) (G : gG) (w0 : Nat) (w6 : Nat) (fs : List Value) (M : Nat → Nat) (a : Nat) (c : Nat) (hf5 : fs[5]? = some (.ref w6)) (ha : a ≤ 24) (hc : c < 7) : Met l yX1_worthFrom wsX1_worthFrom ({ frames := 0, cells := 0, slots := 0, locals := 0 } : Room) (RD G [(w0, .inr (1, fs)), (w6, .inl (G.2 0, 168, .inl (nA (vv M))))] [.ref w0, .int (nI a), .int (nI c)]) (QcRead (nI (wf M c a))) 0 0 noF := rdM (C := RX1) rfl (by decide) rfl (Nat.le_of_ble_eq_true rfl) (fun pX eX sX mX bX meX cX ls hx hb hr hts hown hlk hml hP hK hl => by
  have hl : lv_has ls 5 [(0, .ref w0), (1, .int (nI a)), (2, .int (nI c))] := hl
  have hF1 : ∀ w ∈ wsX10, w ∈ wsX1_worthFrom := fun _ h => (List.mem_cons_of_mem _ (List.mem_append_right _ h))
  refine nr_const (v := 0) hx hb dX1_worthFrom_0 rfl ?_
  refine lv_istore_n (lv' := [(3, .int (nI 0)), (0, .ref w0), (1, .int (nI a)), (2, .int (nI c))]) hx hb dX1_worthFrom_1 rfl hl (by decide) rfl (fun ls hl => ?_)
  refine lv_iload_n hx hb dX1_worthFrom_2 rfl (lv_at hl 2 rfl) ?_
  refine lv_istore (lv' := [(4, .int (nI a)), (3, .int (nI 0)), (0, .ref w0), (1, .int (nI a)), (2, .int (nI c))]) hx hb dX1_worthFrom_3 hl (by decide) rfl (fun ls hl => ?_)
  refine loop_r (T := Nat) (nL := 5) (fun i => i ≤ 24 - a) (fun i => 24 - a - i) (fun i => [(0, .ref w0), (1, .int (nI a)), (2, .int (nI c)), (3, .int (nI (sr (wr M c) a i))), (4, .int (nI (a + i)))]) ?_ 0 (lv_sub hl [2, 3, 4, 1, 0] rfl) (by omega)
  intro i ls hl hi2 ih1
  have hi2_0 := hi2
  have hi2_0 : i ≤ 24 - a := hi2_0
  have hl : lv_has ls 5 [(0, .ref w0), (1, .int (nI a)), (2, .int (nI c)), (3, .int (nI (sr (wr M c) a i))), (4, .int (nI (a + i)))] := hl
  refine lv_iload hx hb dX1_worthFrom_5 (lv_at hl 4 rfl) ?_
  refine nr_bi (v := 24) hx hb dX1_worthFrom_7 (by decide +kernel) ?_
  refine br_ige (tgt := 33) hx hb dX1_worthFrom_9 (by decide) (by omega) (by decide) (fun h3 => ?_) (fun h3 => ?_)
  · skip
    refine lv_iload_n hx hb dX1_worthFrom_33 rfl (lv_at hl 3 rfl) ?_
    exact rret hx hb hr hlk (by have e : i = 24 - a := (by omega); subst e; rfl) dX1_worthFrom_34
  · skip
    refine lv_iload_n hx hb dX1_worthFrom_12 rfl (lv_at hl 3 rfl) ?_
    refine lv_aload_n hx hb dX1_worthFrom_13 rfl (lv_at hl 0 rfl) ?_
    refine va_get (D := G.1) (ci := 1) (v := .ref w6) (C := RX1) (T := TX1) (N := 9) hx hb hts hF1 hown hK hP 0 rfl rfl 5 (by decide) (hts (.fieldLink RX1 27 "CousinShares$Harvest" "worths" "[I") (List.mem_of_getElem? (i := 1) rfl)) (fun _ h9 => h9) hf5 dX1_worthFrom_14 ?_
    refine lv_iload hx hb dX1_worthFrom_17 (lv_at hl 4 rfl) ?_
    refine nr_bi (v := 7) hx hb dX1_worthFrom_19 (by decide +kernel) ?_
    refine nr_mul hx hb dX1_worthFrom_21 ?_
    refine lv_iload_n hx hb dX1_worthFrom_22 rfl (lv_at hl 2 rfl) ?_
    refine nr_add hx hb dX1_worthFrom_23 ?_
    refine nr_ald hx hb hK hP 1 rfl (by omega) (by decide) dX1_worthFrom_24 ?_
    refine nr_top (y := nI (wr M c (a + i))) (congrArg nI (vv_at hc (by omega))) ?_
    refine nr_add hx hb dX1_worthFrom_25 ?_
    refine lv_istore_n (lv' := [(3, .int (nI ((sr (wr M c) a i) + (wr M c (a + i))))), (0, .ref w0), (1, .int (nI a)), (2, .int (nI c)), (4, .int (nI (a + i)))]) hx hb dX1_worthFrom_26 rfl hl (by decide) rfl (fun ls hl => ?_)
    refine nr_inc (d := 1) (v := (a + i) + 1) (lv' := [(4, .int (nI ((a + i) + 1))), (3, .int (nI ((sr (wr M c) a i) + (wr M c (a + i))))), (0, .ref w0), (1, .int (nI a)), (2, .int (nI c))]) hx hb dX1_worthFrom_27 hl (k := 4) rfl rfl (by decide) rfl (fun ls hl => ?_)
    refine lv_goto (tgt := 5) hx hb dX1_worthFrom_30 (by decide) ?_
    exact ih1 (i + 1) ls (lv_sub hl [2, 3, 4, 1, 0] rfl) (by omega) (by omega))

set_option maxHeartbeats 4000000 in
set_option maxRecDepth 100000 in
theorem c_X1_grudgeOf (l : Launch) (G : gG) (w0 : Nat) (w3 : Nat) (fs : List Value) (M : Nat → Nat) (c : Nat) (d : Nat) (hf2 : fs[2]? = some (.ref w3)) (hc : c < 7) (hd : d < 7) : Met l yX1_grudgeOf wsX1_grudgeOf ({ frames := 0, cells := 0, slots := 0, locals := 0 } : Room) (RD G [(w0, .inr (1, fs)), (w3, .inl (G.2 0, 49, .inl (nA (cut 49 148 M))))] [.ref w0, .int (nI c), .int (nI d)]) (QcRead (nI (gr M c d))) 0 0 noF := rdM (C := RX1) rfl (by decide) rfl (Nat.le_of_ble_eq_true rfl) (fun pX eX sX mX bX meX cX ls hx hb hr hts hown hlk hml hP hK hl => by
  have hl : lv_has ls 3 [(0, .ref w0), (1, .int (nI c)), (2, .int (nI d))] := hl
  have hF1 : ∀ w ∈ wsX10, w ∈ wsX1_grudgeOf := fun _ h => (List.mem_cons_of_mem _ (List.mem_append_right _ h))
  refine lv_aload_n hx hb dX1_grudgeOf_0 rfl (lv_at hl 0 rfl) ?_
  refine va_get (D := G.1) (ci := 1) (v := .ref w3) (C := RX1) (T := TX1) (N := 9) hx hb hts hF1 hown hK hP 0 rfl rfl 2 (by decide) (hts (.fieldLink RX1 18 "CousinShares$Harvest" "grudges" "[I") (List.mem_of_getElem? (i := 1) rfl)) (fun _ h9 => h9) hf2 dX1_grudgeOf_1 ?_
  refine lv_iload_n hx hb dX1_grudgeOf_4 rfl (lv_at hl 1 rfl) ?_
  refine nr_bi (v := 7) hx hb dX1_grudgeOf_5 (by decide +kernel) ?_
  refine nr_mul hx hb dX1_grudgeOf_7 ?_
  refine lv_iload_n hx hb dX1_grudgeOf_8 rfl (lv_at hl 2 rfl) ?_
  refine nr_add hx hb dX1_grudgeOf_9 ?_
  refine nr_ald hx hb hK hP 1 rfl (by omega) (by decide) dX1_grudgeOf_10 ?_
  refine nr_top (y := nI (gr M c d)) (congrArg nI (gr_cut hc hd)) ?_
  exact rret hx hb hr hlk (rfl) dX1_grudgeOf_11)

set_option maxHeartbeats 4000000 in
set_option maxRecDepth 100000 in
theorem c_X1_grudgesOf (l : Launch) (G : gG) (w0 : Nat) (w3 : Nat) (fs : List Value) (M : Nat → Nat) (c : Nat) (hf2 : fs[2]? = some (.ref w3)) (hc : c < 7) : Met l yX1_grudgesOf wsX1_grudgesOf ({ frames := 0, cells := 0, slots := 0, locals := 0 } : Room) (RD G [(w0, .inr (1, fs)), (w3, .inl (G.2 0, 49, .inl (nA (cut 49 148 M))))] [.ref w0, .int (nI c)]) (QcRead (nI (gs M c))) 0 0 noF := rdM (C := RX1) rfl (by decide) rfl (Nat.le_of_ble_eq_true rfl) (fun pX eX sX mX bX meX cX ls hx hb hr hts hown hlk hml hP hK hl => by
  have hl : lv_has ls 4 [(0, .ref w0), (1, .int (nI c))] := hl
  have hF1 : ∀ w ∈ wsX10, w ∈ wsX1_grudgesOf := fun _ h => (List.mem_cons_of_mem _ (List.mem_append_right _ h))
  refine nr_const (v := 0) hx hb dX1_grudgesOf_0 rfl ?_
  refine lv_istore_n (lv' := [(2, .int (nI 0)), (0, .ref w0), (1, .int (nI c))]) hx hb dX1_grudgesOf_1 rfl hl (by decide) rfl (fun ls hl => ?_)
  refine nr_const (v := 0) hx hb dX1_grudgesOf_2 rfl ?_
  refine lv_istore_n (lv' := [(3, .int (nI 0)), (2, .int (nI 0)), (0, .ref w0), (1, .int (nI c))]) hx hb dX1_grudgesOf_3 rfl hl (by decide) rfl (fun ls hl => ?_)
  refine loop_r (T := Nat) (nL := 4) (fun i => i ≤ 7) (fun i => 7 - i) (fun i => [(0, .ref w0), (1, .int (nI c)), (2, .int (nI (sm (fun d => gr M c d) i))), (3, .int (nI i))]) ?_ 0 (lv_sub hl [2, 3, 1, 0] rfl) (by omega)
  intro i ls hl hi2 ih1
  have hi2_0 := hi2
  have hi2_0 : i ≤ 7 := hi2_0
  have hl : lv_has ls 4 [(0, .ref w0), (1, .int (nI c)), (2, .int (nI (sm (fun d => gr M c d) i))), (3, .int (nI i))] := hl
  refine lv_iload_n hx hb dX1_grudgesOf_4 rfl (lv_at hl 3 rfl) ?_
  refine nr_bi (v := 7) hx hb dX1_grudgesOf_5 (by decide +kernel) ?_
  refine br_ige (tgt := 30) hx hb dX1_grudgesOf_7 (by decide) (by omega) (by decide) (fun h3 => ?_) (fun h3 => ?_)
  · skip
    refine lv_iload_n hx hb dX1_grudgesOf_30 rfl (lv_at hl 2 rfl) ?_
    exact rret hx hb hr hlk (by have e : i = 7 := (by omega); subst e; rfl) dX1_grudgesOf_31
  · skip
    refine lv_iload_n hx hb dX1_grudgesOf_10 rfl (lv_at hl 2 rfl) ?_
    refine lv_aload_n hx hb dX1_grudgesOf_11 rfl (lv_at hl 0 rfl) ?_
    refine va_get (D := G.1) (ci := 1) (v := .ref w3) (C := RX1) (T := TX1) (N := 9) hx hb hts hF1 hown hK hP 0 rfl rfl 2 (by decide) (hts (.fieldLink RX1 18 "CousinShares$Harvest" "grudges" "[I") (List.mem_of_getElem? (i := 1) rfl)) (fun _ h9 => h9) hf2 dX1_grudgesOf_12 ?_
    refine lv_iload_n hx hb dX1_grudgesOf_15 rfl (lv_at hl 1 rfl) ?_
    refine nr_bi (v := 7) hx hb dX1_grudgesOf_16 (by decide +kernel) ?_
    refine nr_mul hx hb dX1_grudgesOf_18 ?_
    refine lv_iload_n hx hb dX1_grudgesOf_19 rfl (lv_at hl 3 rfl) ?_
    refine nr_add hx hb dX1_grudgesOf_20 ?_
    refine nr_ald hx hb hK hP 1 rfl (by omega) (by decide) dX1_grudgesOf_21 ?_
    refine nr_top (y := nI (gr M c i)) (congrArg nI (gr_cut hc (by omega))) ?_
    refine nr_add hx hb dX1_grudgesOf_22 ?_
    refine lv_istore_n (lv' := [(2, .int (nI ((sm (fun d => gr M c d) i) + (gr M c i)))), (0, .ref w0), (1, .int (nI c)), (3, .int (nI i))]) hx hb dX1_grudgesOf_23 rfl hl (by decide) rfl (fun ls hl => ?_)
    refine nr_inc (d := 1) (v := i + 1) (lv' := [(3, .int (nI (i + 1))), (2, .int (nI ((sm (fun d => gr M c d) i) + (gr M c i)))), (0, .ref w0), (1, .int (nI c))]) hx hb dX1_grudgesOf_24 hl (k := 3) rfl rfl (by decide) rfl (fun ls hl => ?_)
    refine lv_goto (tgt := 4) hx hb dX1_grudgesOf_27 (by decide) ?_
    exact ih1 (i + 1) ls (lv_sub hl [2, 3, 1, 0] rfl) (by omega) (by omega))

set_option maxHeartbeats 4000000 in
set_option maxRecDepth 100000 in
theorem c_X1_isAhead (l : Launch) (G : gG) (w0 : Nat) (w3 : Nat) (w5 : Nat) (fs : List Value) (M : Nat → Nat) (c : Nat) (d : Nat) (hf2 : fs[2]? = some (.ref w3)) (hf4 : fs[4]? = some (.ref w5)) (h0k : ok M) (hc : c < 7) (hd : d < 7) : Met l yX1_isAhead wsX1_isAhead ({ frames := 1, cells := 0, slots := 0, locals := 23 } : Room) (RD G [(w0, .inr (1, fs)), (w3, .inl (G.2 0, 49, .inl (nA (cut 49 148 M)))), (w5, .inl (G.2 0, 2, .inl (nA (cut 2 197 M))))] [.ref w0, .int (nI c), .int (nI d)]) (QcRead (nI (bb (ahd M c d)))) 0 0 noF := rdM (C := RX1) rfl (by decide) rfl (Nat.le_of_ble_eq_true rfl) (fun pX eX sX mX bX meX cX ls hx hb hr hts hown hlk hml hP hK hl => by
  have hl : lv_has ls 5 [(0, .ref w0), (1, .int (nI c)), (2, .int (nI d))] := hl
  have hF1 : ∀ w ∈ wsX10, w ∈ wsX1_isAhead := fun _ h => (List.mem_cons_of_mem _ (List.mem_append_right _ h))
  have hg1 := gs_le h0k hc
  have hg2 := gs_le h0k hd
  have hs1 := h0k.2.2.2.2.1
  refine lv_aload_n hx hb dX1_isAhead_0 rfl (lv_at hl 0 rfl) ?_
  refine va_get (D := G.1) (ci := 1) (v := .ref w5) (C := RX1) (T := TX1) (N := 9) hx hb hts hF1 hown hK hP 0 rfl rfl 4 (by decide) (hts (.fieldLink RX1 24 "CousinShares$Harvest" "settings" "[I") (List.mem_of_getElem? (i := 1) rfl)) (fun _ h9 => h9) hf4 dX1_isAhead_1 ?_
  refine nr_const (v := 0) hx hb dX1_isAhead_4 rfl ?_
  refine nr_ald hx hb hK hP 2 rfl (by omega) (by decide) dX1_isAhead_5 ?_
  refine nr_top (y := nI (M 197)) (rfl) ?_
  refine br_ne0 (tgt := 20) hx hb dX1_isAhead_6 (by decide) (by omega) (fun h1 => ?_) (fun h1 => ?_)
  · skip
    refine lv_aload_n hx hb dX1_isAhead_20 rfl (lv_at hl 0 rfl) ?_
    refine lv_iload_n hx hb dX1_isAhead_21 rfl (lv_at hl 1 rfl) ?_
    refine rcV (As := [.int (nI c)]) (wl := [(w0, .inr (1, fs)), (w3, .inl (G.2 0, 49, .inl (nA (cut 49 148 M))))]) ⟨hx, hb, hml, hown, hts⟩ (c_X1_grudgesOf l G w0 w3 fs M c hf2 (by omega)) (cwV 1 hts gX1_isAhead_X1_grudgesOf rfl rfl rfl (by decide +kernel) ⟨Nat.le_of_ble_eq_true rfl, Nat.le_of_ble_eq_true rfl⟩) hK (hP.sub [0, 1] rfl) 1 0 rfl rfl rfl hl.1 rfl (Nat.le_of_ble_eq_true rfl) dX1_isAhead_22 ⟨Nat.zero_le _, Nat.zero_le _⟩ ?_
    refine lv_istore_n (lv' := [(3, .int (nI (gs M c))), (0, .ref w0), (1, .int (nI c)), (2, .int (nI d))]) hx hb dX1_isAhead_25 rfl hl (by decide) rfl (fun ls hl => ?_)
    refine lv_aload_n hx hb dX1_isAhead_26 rfl (lv_at hl 1 rfl) ?_
    refine lv_iload_n hx hb dX1_isAhead_27 rfl (lv_at hl 3 rfl) ?_
    refine rcV (As := [.int (nI d)]) (wl := [(w0, .inr (1, fs)), (w3, .inl (G.2 0, 49, .inl (nA (cut 49 148 M))))]) ⟨hx, hb, hml, hown, hts⟩ (c_X1_grudgesOf l G w0 w3 fs M d hf2 (by omega)) (cwV 1 hts gX1_isAhead_X1_grudgesOf rfl rfl rfl (by decide +kernel) ⟨Nat.le_of_ble_eq_true rfl, Nat.le_of_ble_eq_true rfl⟩) hK (hP.sub [0, 1] rfl) 1 0 rfl rfl rfl hl.1 rfl (Nat.le_of_ble_eq_true rfl) dX1_isAhead_28 ⟨Nat.zero_le _, Nat.zero_le _⟩ ?_
    refine lv_istore (lv' := [(4, .int (nI (gs M d))), (3, .int (nI (gs M c))), (0, .ref w0), (1, .int (nI c)), (2, .int (nI d))]) hx hb dX1_isAhead_31 hl (by decide) rfl (fun ls hl => ?_)
    refine lv_iload_n hx hb dX1_isAhead_33 rfl (lv_at hl 1 rfl) ?_
    refine lv_iload hx hb dX1_isAhead_34 (lv_at hl 0 rfl) ?_
    refine join_v (T := Nat) (J := 55) (nL := 5) (fun v => [(4, .int (nI (gs M d))), (3, .int (nI (gs M c))), (0, .ref w0), (1, .int (nI c)), (2, .int (nI d))]) (fun v => [.int (nI v)]) (fun v => v = bb (((gs M d) < (gs M c)) ∨ (((gs M c) = (gs M d)) ∧ (¬ (d ≤ c))))) ?_ (fun jj2 => ?_)
    · intro v ls hl hv3
      subst hv3
      exact rretz hx hb hr hlk (congrArg nI (bb_c (by omega))) dX1_isAhead_55
    · skip
      refine br_igt (tgt := 50) hx hb dX1_isAhead_36 (by decide) (by omega) (by omega) (fun h4 => ?_) (fun h4 => ?_)
      · skip
        refine nr_const (v := 1) hx hb dX1_isAhead_50 rfl ?_
        refine lv_goto (tgt := 55) hx hb dX1_isAhead_51 (by decide) ?_
        exact jj2 1 ls (lv_sub hl [0, 1, 2, 3, 4] rfl) (bb_t (Or.inl h4)).symm
      · skip
        refine lv_iload_n hx hb dX1_isAhead_39 rfl (lv_at hl 1 rfl) ?_
        refine lv_iload hx hb dX1_isAhead_40 (lv_at hl 0 rfl) ?_
        refine br_ine (tgt := 54) hx hb dX1_isAhead_42 (by decide) (by omega) (by omega) (fun h5 => ?_) (fun h5 => ?_)
        · skip
          refine nr_const (v := 0) hx hb dX1_isAhead_54 rfl ?_
          exact jj2 0 ls (lv_sub hl [0, 1, 2, 3, 4] rfl) (bb_f (fun q => q.elim h4 (fun q => h5 q.1))).symm
        · skip
          refine lv_iload_n hx hb dX1_isAhead_45 rfl (lv_at hl 3 rfl) ?_
          refine lv_iload_n hx hb dX1_isAhead_46 rfl (lv_at hl 4 rfl) ?_
          refine br_ige (tgt := 54) hx hb dX1_isAhead_47 (by decide) (by omega) (by omega) (fun h6 => ?_) (fun h6 => ?_)
          · skip
            refine nr_const (v := 0) hx hb dX1_isAhead_54 rfl ?_
            exact jj2 0 ls (lv_sub hl [0, 1, 2, 3, 4] rfl) (bb_f (fun q => q.elim h4 (fun q => (fun q => q h6) q.2))).symm
          · skip
            refine nr_const (v := 1) hx hb dX1_isAhead_50 rfl ?_
            refine lv_goto (tgt := 55) hx hb dX1_isAhead_51 (by decide) ?_
            exact jj2 1 ls (lv_sub hl [0, 1, 2, 3, 4] rfl) (bb_t (Or.inr ⟨h5, h6⟩)).symm
  · skip
    refine lv_iload_n hx hb dX1_isAhead_9 rfl (lv_at hl 1 rfl) ?_
    refine lv_iload_n hx hb dX1_isAhead_10 rfl (lv_at hl 2 rfl) ?_
    refine join_v (T := Nat) (J := 19) (nL := 5) (fun v => [(0, .ref w0), (1, .int (nI c)), (2, .int (nI d))]) (fun v => [.int (nI v)]) (fun v => v = bb (¬ (d ≤ c))) ?_ (fun jj7 => ?_)
    · intro v ls hl hv8
      subst hv8
      exact rretz hx hb hr hlk (congrArg nI (bb_c (by omega))) dX1_isAhead_19
    · skip
      refine br_ige (tgt := 18) hx hb dX1_isAhead_11 (by decide) (by omega) (by omega) (fun h9 => ?_) (fun h9 => ?_)
      · skip
        refine nr_const (v := 0) hx hb dX1_isAhead_18 rfl ?_
        exact jj7 0 ls (lv_sub hl [0, 1, 2] rfl) (bb_f (fun q => q h9)).symm
      · skip
        refine nr_const (v := 1) hx hb dX1_isAhead_14 rfl ?_
        refine lv_goto (tgt := 19) hx hb dX1_isAhead_15 (by decide) ?_
        exact jj7 1 ls (lv_sub hl [0, 1, 2] rfl) (bb_t h9).symm)

set_option maxHeartbeats 4000000 in
set_option maxRecDepth 100000 in
theorem c_X1_placeOf (l : Launch) (G : gG) (w0 : Nat) (w3 : Nat) (w5 : Nat) (fs : List Value) (M : Nat → Nat) (c : Nat) (hf2 : fs[2]? = some (.ref w3)) (hf4 : fs[4]? = some (.ref w5)) (h0k : ok M) (hc : c < 7) : Met l yX1_placeOf wsX1_placeOf ({ frames := 2, cells := 0, slots := 0, locals := 47 } : Room) (RD G [(w0, .inr (1, fs)), (w3, .inl (G.2 0, 49, .inl (nA (cut 49 148 M)))), (w5, .inl (G.2 0, 2, .inl (nA (cut 2 197 M))))] [.ref w0, .int (nI c)]) (QcRead (nI (pl M c))) 0 0 noF := rdM (C := RX1) rfl (by decide) rfl (Nat.le_of_ble_eq_true rfl) (fun pX eX sX mX bX meX cX ls hx hb hr hts hown hlk hml hP hK hl => by
  have hl : lv_has ls 4 [(0, .ref w0), (1, .int (nI c))] := hl
  refine nr_const (v := 0) hx hb dX1_placeOf_0 rfl ?_
  refine lv_istore_n (lv' := [(2, .int (nI 0)), (0, .ref w0), (1, .int (nI c))]) hx hb dX1_placeOf_1 rfl hl (by decide) rfl (fun ls hl => ?_)
  refine nr_const (v := 0) hx hb dX1_placeOf_2 rfl ?_
  refine lv_istore_n (lv' := [(3, .int (nI 0)), (2, .int (nI 0)), (0, .ref w0), (1, .int (nI c))]) hx hb dX1_placeOf_3 rfl hl (by decide) rfl (fun ls hl => ?_)
  refine loop_r (T := Nat) (nL := 4) (fun i => i ≤ 7) (fun i => 7 - i) (fun i => [(0, .ref w0), (1, .int (nI c)), (2, .int (nI (sm (fun k => bb (ahd M k c)) i))), (3, .int (nI i))]) ?_ 0 (lv_sub hl [2, 3, 1, 0] rfl) (by omega)
  intro i ls hl hi2 ih1
  have hi2_0 := hi2
  have hi2_0 : i ≤ 7 := hi2_0
  have hl : lv_has ls 4 [(0, .ref w0), (1, .int (nI c)), (2, .int (nI (sm (fun k => bb (ahd M k c)) i))), (3, .int (nI i))] := hl
  refine lv_iload_n hx hb dX1_placeOf_4 rfl (lv_at hl 3 rfl) ?_
  refine nr_bi (v := 7) hx hb dX1_placeOf_5 (by decide +kernel) ?_
  refine br_ige (tgt := 28) hx hb dX1_placeOf_7 (by decide) (by omega) (by decide) (fun h3 => ?_) (fun h3 => ?_)
  · skip
    refine lv_iload_n hx hb dX1_placeOf_28 rfl (lv_at hl 2 rfl) ?_
    exact rret hx hb hr hlk (by have e : i = 7 := (by omega); subst e; rfl) dX1_placeOf_29
  · skip
    refine lv_aload_n hx hb dX1_placeOf_10 rfl (lv_at hl 0 rfl) ?_
    refine lv_iload_n hx hb dX1_placeOf_11 rfl (lv_at hl 3 rfl) ?_
    refine lv_iload_n hx hb dX1_placeOf_12 rfl (lv_at hl 1 rfl) ?_
    refine rcV (As := [.int (nI i), .int (nI c)]) (wl := [(w0, .inr (1, fs)), (w3, .inl (G.2 0, 49, .inl (nA (cut 49 148 M)))), (w5, .inl (G.2 0, 2, .inl (nA (cut 2 197 M))))]) ⟨hx, hb, hml, hown, hts⟩ (c_X1_isAhead l G w0 w3 w5 fs M i c hf2 hf4 h0k (by omega) (by omega)) (cwV 2 hts gX1_placeOf_X1_isAhead rfl rfl rfl (by decide +kernel) ⟨Nat.le_of_ble_eq_true rfl, Nat.le_of_ble_eq_true rfl⟩) hK hP 1 0 rfl rfl rfl hl.1 rfl (Nat.le_of_ble_eq_true rfl) dX1_placeOf_13 ⟨Nat.zero_le _, Nat.zero_le _⟩ ?_
    refine br_eqb (tgt := 22) hx hb dX1_placeOf_16 (by decide) (fun h4 => ?_) (fun h4 => ?_)
    · skip
      refine nr_inc (d := 1) (v := i + 1) (lv' := [(3, .int (nI (i + 1))), (0, .ref w0), (1, .int (nI c)), (2, .int (nI (sm (fun k => bb (ahd M k c)) i)))]) hx hb dX1_placeOf_22 hl (k := 3) rfl rfl (by decide) rfl (fun ls hl => ?_)
      refine lv_goto (tgt := 4) hx hb dX1_placeOf_25 (by decide) ?_
      have efx : sm (fun k => bb (ahd M k c)) (i + 1) = sm (fun k => bb (ahd M k c)) i := by rw [sm_s, bb_f h4]; rfl
      exact ih1 (i + 1) ls (by show lv_has ls 4 [(0, .ref w0), (1, .int (nI c)), (2, .int (nI (sm (fun k => bb (ahd M k c)) (i + 1)))), (3, .int (nI (i + 1)))]; rw [efx]; exact lv_sub hl [1, 2, 3, 0] rfl) (by omega) (by omega)
    · skip
      refine nr_inc (d := 1) (v := (sm (fun k => bb (ahd M k c)) i) + 1) (lv' := [(2, .int (nI ((sm (fun k => bb (ahd M k c)) i) + 1))), (0, .ref w0), (1, .int (nI c)), (3, .int (nI i))]) hx hb dX1_placeOf_19 hl (k := 2) rfl rfl (by decide) rfl (fun ls hl => ?_)
      refine nr_inc (d := 1) (v := i + 1) (lv' := [(3, .int (nI (i + 1))), (2, .int (nI ((sm (fun k => bb (ahd M k c)) i) + 1))), (0, .ref w0), (1, .int (nI c))]) hx hb dX1_placeOf_22 hl (k := 3) rfl rfl (by decide) rfl (fun ls hl => ?_)
      refine lv_goto (tgt := 4) hx hb dX1_placeOf_25 (by decide) ?_
      have efx : sm (fun k => bb (ahd M k c)) (i + 1) = (sm (fun k => bb (ahd M k c)) i) + 1 := by rw [sm_s, bb_t h4]
      exact ih1 (i + 1) ls (by show lv_has ls 4 [(0, .ref w0), (1, .int (nI c)), (2, .int (nI (sm (fun k => bb (ahd M k c)) (i + 1)))), (3, .int (nI (i + 1)))]; rw [efx]; exact lv_sub hl [2, 3, 1, 0] rfl) (by omega) (by omega))

set_option maxHeartbeats 4000000 in
set_option maxRecDepth 100000 in
theorem c_X1_plotsOf (l : Launch) (G : gG) (w0 : Nat) (w4 : Nat) (fs : List Value) (M : Nat → Nat) (d : Nat) (hf3 : fs[3]? = some (.ref w4)) (hd : d < 8) (hO : ∀ k, k < 24 → ow M 0 k < 8) : Met l yX1_plotsOf wsX1_plotsOf ({ frames := 0, cells := 0, slots := 0, locals := 0 } : Room) (RD G [(w0, .inr (1, fs)), (w4, .inl (G.2 0, 24, .inl (nA (cut 24 96 M))))] [.ref w0, .int (nI d)]) (QcRead (nI (pc4 (ow M 0) d))) 0 0 noF := rdM (C := RX1) rfl (by decide) rfl (Nat.le_of_ble_eq_true rfl) (fun pX eX sX mX bX meX cX ls hx hb hr hts hown hlk hml hP hK hl => by
  have hl : lv_has ls 4 [(0, .ref w0), (1, .int (nI d))] := hl
  have hF1 : ∀ w ∈ wsX10, w ∈ wsX1_plotsOf := fun _ h => (List.mem_cons_of_mem _ (List.mem_append_right _ h))
  refine nr_const (v := 0) hx hb dX1_plotsOf_0 rfl ?_
  refine lv_istore_n (lv' := [(2, .int (nI 0)), (0, .ref w0), (1, .int (nI d))]) hx hb dX1_plotsOf_1 rfl hl (by decide) rfl (fun ls hl => ?_)
  refine nr_const (v := 0) hx hb dX1_plotsOf_2 rfl ?_
  refine lv_istore_n (lv' := [(3, .int (nI 0)), (2, .int (nI 0)), (0, .ref w0), (1, .int (nI d))]) hx hb dX1_plotsOf_3 rfl hl (by decide) rfl (fun ls hl => ?_)
  refine loop_r (T := Nat) (nL := 4) (fun i => i ≤ 24) (fun i => 24 - i) (fun i => [(0, .ref w0), (1, .int (nI d)), (2, .int (nI (sm (fun k => bb (ow M 0 k = d)) i))), (3, .int (nI i))]) ?_ 0 (lv_sub hl [2, 3, 1, 0] rfl) (by omega)
  intro i ls hl hi2 ih1
  have hi2_0 := hi2
  have hi2_0 : i ≤ 24 := hi2_0
  have hl : lv_has ls 4 [(0, .ref w0), (1, .int (nI d)), (2, .int (nI (sm (fun k => bb (ow M 0 k = d)) i))), (3, .int (nI i))] := hl
  refine lv_iload_n hx hb dX1_plotsOf_4 rfl (lv_at hl 3 rfl) ?_
  refine nr_bi (v := 24) hx hb dX1_plotsOf_5 (by decide +kernel) ?_
  refine br_ige (tgt := 29) hx hb dX1_plotsOf_7 (by decide) (by omega) (by decide) (fun h3 => ?_) (fun h3 => ?_)
  · skip
    refine lv_iload_n hx hb dX1_plotsOf_29 rfl (lv_at hl 2 rfl) ?_
    exact rret hx hb hr hlk (by have e : i = 24 := (by omega); subst e; rfl) dX1_plotsOf_30
  · skip
    refine lv_aload_n hx hb dX1_plotsOf_10 rfl (lv_at hl 0 rfl) ?_
    refine va_get (D := G.1) (ci := 1) (v := .ref w4) (C := RX1) (T := TX1) (N := 9) hx hb hts hF1 hown hK hP 0 rfl rfl 3 (by decide) (hts (.fieldLink RX1 21 "CousinShares$Harvest" "owners" "[I") (List.mem_of_getElem? (i := 1) rfl)) (fun _ h9 => h9) hf3 dX1_plotsOf_11 ?_
    refine lv_iload_n hx hb dX1_plotsOf_14 rfl (lv_at hl 3 rfl) ?_
    refine nr_ald hx hb hK hP 1 rfl (by omega) (by decide) dX1_plotsOf_15 ?_
    refine nr_top (y := nI (ow M 0 i)) (congrArg nI (ow_cut (by omega))) ?_
    refine lv_iload_n hx hb dX1_plotsOf_16 rfl (lv_at hl 1 rfl) ?_
    refine br_ine (tgt := 23) hx hb dX1_plotsOf_17 (by decide) (by have := hO i (by omega); omega) (by omega) (fun h4 => ?_) (fun h4 => ?_)
    · skip
      refine nr_inc (d := 1) (v := i + 1) (lv' := [(3, .int (nI (i + 1))), (0, .ref w0), (1, .int (nI d)), (2, .int (nI (sm (fun k => bb (ow M 0 k = d)) i)))]) hx hb dX1_plotsOf_23 hl (k := 3) rfl rfl (by decide) rfl (fun ls hl => ?_)
      refine lv_goto (tgt := 4) hx hb dX1_plotsOf_26 (by decide) ?_
      have efx : sm (fun k => bb (ow M 0 k = d)) (i + 1) = sm (fun k => bb (ow M 0 k = d)) i := by rw [sm_s, bb_f h4]; rfl
      exact ih1 (i + 1) ls (by show lv_has ls 4 [(0, .ref w0), (1, .int (nI d)), (2, .int (nI (sm (fun k => bb (ow M 0 k = d)) (i + 1)))), (3, .int (nI (i + 1)))]; rw [efx]; exact lv_sub hl [1, 2, 3, 0] rfl) (by omega) (by omega)
    · skip
      refine nr_inc (d := 1) (v := (sm (fun k => bb (ow M 0 k = d)) i) + 1) (lv' := [(2, .int (nI ((sm (fun k => bb (ow M 0 k = d)) i) + 1))), (0, .ref w0), (1, .int (nI d)), (3, .int (nI i))]) hx hb dX1_plotsOf_20 hl (k := 2) rfl rfl (by decide) rfl (fun ls hl => ?_)
      refine nr_inc (d := 1) (v := i + 1) (lv' := [(3, .int (nI (i + 1))), (2, .int (nI ((sm (fun k => bb (ow M 0 k = d)) i) + 1))), (0, .ref w0), (1, .int (nI d))]) hx hb dX1_plotsOf_23 hl (k := 3) rfl rfl (by decide) rfl (fun ls hl => ?_)
      refine lv_goto (tgt := 4) hx hb dX1_plotsOf_26 (by decide) ?_
      have efx : sm (fun k => bb (ow M 0 k = d)) (i + 1) = (sm (fun k => bb (ow M 0 k = d)) i) + 1 := by rw [sm_s, bb_t h4]
      exact ih1 (i + 1) ls (by show lv_has ls 4 [(0, .ref w0), (1, .int (nI d)), (2, .int (nI (sm (fun k => bb (ow M 0 k = d)) (i + 1)))), (3, .int (nI (i + 1)))]; rw [efx]; exact lv_sub hl [2, 3, 1, 0] rfl) (by omega) (by omega))

set_option maxHeartbeats 4000000 in
set_option maxRecDepth 100000 in
theorem c_X1_exchange (l : Launch) (G : gG) (w0 : Nat) (w4 : Nat) (fs : List Value) (O : Nat → Nat) (c : Nat) (d : Nat) (hf3 : fs[3]? = some (.ref w4)) (hc : c < 8) (hd : d < 8) (hO : ∀ k, k < 24 → O k < 8) (sz : Nat) : Met l yX1_exchange wsX1_exchange ({ frames := 0, cells := 0, slots := 0, locals := 0 } : Room) (WR G [(w0, .inr (1, fs)), (w4, .inl (G.2 0, 24, .inl (nA O)))] sz [.ref w0, .int (nI c), .int (nI d)]) (va_Qv (fun _ : Unit => True) (WB G (va_A [(w0, .inr (1, fs)), (w4, .inl (G.2 0, 24, .inl (nA O)))] sz) (fun _ : Unit => [(w0, .inr (1, fs)), (w4, .inl (G.2 0, 24, .inl (nA (trO O c d 24))))])) (va_A [(w0, .inr (1, fs)), (w4, .inl (G.2 0, 24, .inl (nA O)))] sz)) 0 0 (va_A [(w0, .inr (1, fs)), (w4, .inl (G.2 0, 24, .inl (nA O)))] sz) := wrM (Qf := fun AA => va_Qv (fun _ : Unit => True) (WB G AA (fun _ : Unit => [(w0, .inr (1, fs)), (w4, .inl (G.2 0, 24, .inl (nA (trO O c d 24))))])) AA) (C := RX1) rfl (by decide) rfl (Nat.le_of_ble_eq_true rfl) (fun pX eX sX mX bX meX cX ls AA hx hb hr hts hown hlk hml hin hP hK hD hAA hS hl => by
  have hl : lv_has ls 4 [(0, .ref w0), (1, .int (nI c)), (2, .int (nI d))] := hl
  have hF1 : ∀ w ∈ wsX10, w ∈ wsX1_exchange := fun _ h => (List.mem_cons_of_mem _ (List.mem_append_right _ h))
  refine nr_const (v := 0) hx hb dX1_exchange_0 rfl ?_
  refine lv_istore_n (lv' := [(3, .int (nI 0)), (0, .ref w0), (1, .int (nI c)), (2, .int (nI d))]) hx hb dX1_exchange_1 rfl hl (by decide) rfl (fun ls hl => ?_)
  rw [← trO_0 O c d] at hP hD
  refine loop_w (T := Nat) (nL := 4) (fun i => i ≤ 24) (fun i => 24 - i) (fun i => [(0, .ref w0), (1, .int (nI c)), (2, .int (nI d)), (3, .int (nI i))]) (fun i => [(w0, .inr (1, fs)), (w4, .inl (G.2 0, 24, .inl (nA (trO O c d i))))]) ?_ 0 (lv_sub hl [1, 2, 3, 0] rfl) hP hD hS (by omega)
  intro i ls H locs hl hP hD hS hi2 ih1
  have hi2_0 := hi2
  have hi2_0 : i ≤ 24 := hi2_0
  have hl : lv_has ls 4 [(0, .ref w0), (1, .int (nI c)), (2, .int (nI d)), (3, .int (nI i))] := hl
  have hP : va_P G.1 vwCl [(w0, .inr (1, fs)), (w4, .inl (G.2 0, 24, .inl (nA (trO O c d i))))] _ := hP
  have hD : va_D AA [(w0, .inr (1, fs)), (w4, .inl (G.2 0, 24, .inl (nA (trO O c d i))))] := hD
  refine lv_iload_n hx hb dX1_exchange_2 rfl (lv_at hl 3 rfl) ?_
  refine nr_bi (v := 24) hx hb dX1_exchange_3 (by decide +kernel) ?_
  refine br_ige (tgt := 51) hx hb dX1_exchange_5 (by decide) (by omega) (by decide) (fun h3 => ?_) (fun h3 => ?_)
  · skip
    have e2 : i = 24 := (by omega)
    subst e2
    exact wretv hx hb hr hlk hK hS (()) hP hD (trivial) dX1_exchange_51
  · skip
    refine lv_aload_n hx hb dX1_exchange_8 rfl (lv_at hl 0 rfl) ?_
    refine va_get (D := G.1) (ci := 1) (v := .ref w4) (C := RX1) (T := TX1) (N := 9) hx hb hts hF1 hown hK hP 0 rfl rfl 3 (by decide) (hts (.fieldLink RX1 21 "CousinShares$Harvest" "owners" "[I") (List.mem_of_getElem? (i := 1) rfl)) (fun _ h9 => h9) hf3 dX1_exchange_9 ?_
    refine lv_iload_n hx hb dX1_exchange_12 rfl (lv_at hl 3 rfl) ?_
    refine nr_ald hx hb hK hP 1 rfl (by omega) (by decide) dX1_exchange_13 ?_
    refine nr_top (y := nI (O i)) (congrArg nI trO_o) ?_
    refine lv_iload_n hx hb dX1_exchange_14 rfl (lv_at hl 1 rfl) ?_
    refine br_ine (tgt := 28) hx hb dX1_exchange_15 (by decide) (by have := hO i (by omega); omega) (by omega) (fun h4 => ?_) (fun h4 => ?_)
    · skip
      refine lv_aload_n hx hb dX1_exchange_28 rfl (lv_at hl 0 rfl) ?_
      refine va_get (D := G.1) (ci := 1) (v := .ref w4) (C := RX1) (T := TX1) (N := 9) hx hb hts hF1 hown hK hP 0 rfl rfl 3 (by decide) (hts (.fieldLink RX1 21 "CousinShares$Harvest" "owners" "[I") (List.mem_of_getElem? (i := 1) rfl)) (fun _ h9 => h9) hf3 dX1_exchange_29 ?_
      refine lv_iload_n hx hb dX1_exchange_32 rfl (lv_at hl 3 rfl) ?_
      refine nr_ald hx hb hK hP 1 rfl (by omega) (by decide) dX1_exchange_33 ?_
      refine nr_top (y := nI (O i)) (congrArg nI trO_o) ?_
      refine lv_iload_n hx hb dX1_exchange_34 rfl (lv_at hl 2 rfl) ?_
      refine br_ine (tgt := 45) hx hb dX1_exchange_35 (by decide) (by have := hO i (by omega); omega) (by omega) (fun h5 => ?_) (fun h5 => ?_)
      · skip
        rw [trO_k (show swp c d (O i) = O i by unfold swp; rw [if_neg (by assumption), if_neg (by assumption)])] at hP hD
        have hP : va_P G.1 vwCl [(w0, .inr (1, fs)), (w4, .inl (G.2 0, 24, .inl (nA (trO O c d (i + 1)))))] _ := hP
        have hD : va_D AA [(w0, .inr (1, fs)), (w4, .inl (G.2 0, 24, .inl (nA (trO O c d (i + 1)))))] := hD
        refine nr_inc (d := 1) (v := i + 1) (lv' := [(3, .int (nI (i + 1))), (0, .ref w0), (1, .int (nI c)), (2, .int (nI d))]) hx hb dX1_exchange_45 hl (k := 3) rfl rfl (by decide) rfl (fun ls hl => ?_)
        refine lv_goto (tgt := 2) hx hb dX1_exchange_48 (by decide) ?_
        exact ih1 (i + 1) ls H locs (lv_sub hl [1, 2, 3, 0] rfl) hP hD hS (by omega) (by omega)
      · skip
        refine lv_aload_n hx hb dX1_exchange_38 rfl (lv_at hl 0 rfl) ?_
        refine va_get (D := G.1) (ci := 1) (v := .ref w4) (C := RX1) (T := TX1) (N := 9) hx hb hts hF1 hown hK hP 0 rfl rfl 3 (by decide) (hts (.fieldLink RX1 21 "CousinShares$Harvest" "owners" "[I") (List.mem_of_getElem? (i := 1) rfl)) (fun _ h9 => h9) hf3 dX1_exchange_39 ?_
        refine lv_iload_n hx hb dX1_exchange_42 rfl (lv_at hl 3 rfl) ?_
        refine lv_iload_n hx hb dX1_exchange_43 rfl (lv_at hl 1 rfl) ?_
        refine nr_ast (ws' := [(w0, .inr (1, fs)), (w4, .inl (G.2 0, 24, .inl (nA (va_up (trO O c d i) i c))))]) hx hb hK hP hD hS 1 rfl (by omega) (by decide) dX1_exchange_44 rfl (fun H locs hP hD hS => ?_)
        rw [show va_up (trO O c d i) i c = trO O c d (i + 1) from by rw [← trO_s]; congr 1; unfold swp; first | rw [if_pos (by assumption)] | rw [if_neg (by assumption), if_pos (by assumption)]] at hP hD
        have hP : va_P G.1 vwCl [(w0, .inr (1, fs)), (w4, .inl (G.2 0, 24, .inl (nA (trO O c d (i + 1)))))] _ := hP
        have hD : va_D AA [(w0, .inr (1, fs)), (w4, .inl (G.2 0, 24, .inl (nA (trO O c d (i + 1)))))] := hD
        refine nr_inc (d := 1) (v := i + 1) (lv' := [(3, .int (nI (i + 1))), (0, .ref w0), (1, .int (nI c)), (2, .int (nI d))]) hx hb dX1_exchange_45 hl (k := 3) rfl rfl (by decide) rfl (fun ls hl => ?_)
        refine lv_goto (tgt := 2) hx hb dX1_exchange_48 (by decide) ?_
        exact ih1 (i + 1) ls H locs (lv_sub hl [1, 2, 3, 0] rfl) hP hD hS (by omega) (by omega)
    · skip
      refine lv_aload_n hx hb dX1_exchange_18 rfl (lv_at hl 0 rfl) ?_
      refine va_get (D := G.1) (ci := 1) (v := .ref w4) (C := RX1) (T := TX1) (N := 9) hx hb hts hF1 hown hK hP 0 rfl rfl 3 (by decide) (hts (.fieldLink RX1 21 "CousinShares$Harvest" "owners" "[I") (List.mem_of_getElem? (i := 1) rfl)) (fun _ h9 => h9) hf3 dX1_exchange_19 ?_
      refine lv_iload_n hx hb dX1_exchange_22 rfl (lv_at hl 3 rfl) ?_
      refine lv_iload_n hx hb dX1_exchange_23 rfl (lv_at hl 2 rfl) ?_
      refine nr_ast (ws' := [(w0, .inr (1, fs)), (w4, .inl (G.2 0, 24, .inl (nA (va_up (trO O c d i) i d))))]) hx hb hK hP hD hS 1 rfl (by omega) (by decide) dX1_exchange_24 rfl (fun H locs hP hD hS => ?_)
      refine lv_goto (tgt := 45) hx hb dX1_exchange_25 (by decide) ?_
      rw [show va_up (trO O c d i) i d = trO O c d (i + 1) from by rw [← trO_s]; congr 1; unfold swp; first | rw [if_pos (by assumption)] | rw [if_neg (by assumption), if_pos (by assumption)]] at hP hD
      have hP : va_P G.1 vwCl [(w0, .inr (1, fs)), (w4, .inl (G.2 0, 24, .inl (nA (trO O c d (i + 1)))))] _ := hP
      have hD : va_D AA [(w0, .inr (1, fs)), (w4, .inl (G.2 0, 24, .inl (nA (trO O c d (i + 1)))))] := hD
      refine nr_inc (d := 1) (v := i + 1) (lv' := [(3, .int (nI (i + 1))), (0, .ref w0), (1, .int (nI c)), (2, .int (nI d))]) hx hb dX1_exchange_45 hl (k := 3) rfl rfl (by decide) rfl (fun ls hl => ?_)
      refine lv_goto (tgt := 2) hx hb dX1_exchange_48 (by decide) ?_
      exact ih1 (i + 1) ls H locs (lv_sub hl [1, 2, 3, 0] rfl) hP hD hS (by omega) (by omega))

set_option maxHeartbeats 4000000 in
set_option maxRecDepth 100000 in
theorem c_X1_weighPlot (l : Launch) (G : gG) (w0 : Nat) (w1 : Nat) (w2 : Nat) (w6 : Nat) (fs : List Value) (M : Nat → Nat) (V : Nat → Nat) (k : Nat) (c : Nat) (hf0 : fs[0]? = some (.ref w1)) (hf1 : fs[1]? = some (.ref w2)) (hf5 : fs[5]? = some (.ref w6)) (hk : k < 24) (hc : c < 7) (sz : Nat) : Met l yX1_weighPlot wsX1_weighPlot ({ frames := 0, cells := 0, slots := 0, locals := 0 } : Room) (WR G [(w0, .inr (1, fs)), (w1, .inl (G.2 0, 96, .inl (nA (cut 96 0 M)))), (w2, .inl (G.2 0, 28, .inl (nA (cut 28 120 M)))), (w6, .inl (G.2 0, 168, .inl (nA V)))] sz [.ref w0, .int (nI k), .int (nI c)]) (va_Qv (fun _ : Unit => True) (WB G (va_A [(w0, .inr (1, fs)), (w1, .inl (G.2 0, 96, .inl (nA (cut 96 0 M)))), (w2, .inl (G.2 0, 28, .inl (nA (cut 28 120 M)))), (w6, .inl (G.2 0, 168, .inl (nA V)))] sz) (fun _ : Unit => [(w0, .inr (1, fs)), (w1, .inl (G.2 0, 96, .inl (nA (cut 96 0 M)))), (w2, .inl (G.2 0, 28, .inl (nA (cut 28 120 M)))), (w6, .inl (G.2 0, 168, .inl (nA (va_up V (k * 7 + c) (wr M c k)))))])) (va_A [(w0, .inr (1, fs)), (w1, .inl (G.2 0, 96, .inl (nA (cut 96 0 M)))), (w2, .inl (G.2 0, 28, .inl (nA (cut 28 120 M)))), (w6, .inl (G.2 0, 168, .inl (nA V)))] sz)) 0 0 (va_A [(w0, .inr (1, fs)), (w1, .inl (G.2 0, 96, .inl (nA (cut 96 0 M)))), (w2, .inl (G.2 0, 28, .inl (nA (cut 28 120 M)))), (w6, .inl (G.2 0, 168, .inl (nA V)))] sz) := wrM (Qf := fun AA => va_Qv (fun _ : Unit => True) (WB G AA (fun _ : Unit => [(w0, .inr (1, fs)), (w1, .inl (G.2 0, 96, .inl (nA (cut 96 0 M)))), (w2, .inl (G.2 0, 28, .inl (nA (cut 28 120 M)))), (w6, .inl (G.2 0, 168, .inl (nA (va_up V (k * 7 + c) (wr M c k)))))])) AA) (C := RX1) rfl (by decide) rfl (Nat.le_of_ble_eq_true rfl) (fun pX eX sX mX bX meX cX ls AA hx hb hr hts hown hlk hml hin hP hK hD hAA hS hl => by
  have hl : lv_has ls 5 [(0, .ref w0), (1, .int (nI k)), (2, .int (nI c))] := hl
  have hF1 : ∀ w ∈ wsX10, w ∈ wsX1_weighPlot := fun _ h => (List.mem_cons_of_mem _ (List.mem_append_right _ h))
  refine nr_const (v := 0) hx hb dX1_weighPlot_0 rfl ?_
  refine lv_istore_n (lv' := [(3, .int (nI 0)), (0, .ref w0), (1, .int (nI k)), (2, .int (nI c))]) hx hb dX1_weighPlot_1 rfl hl (by decide) rfl (fun ls hl => ?_)
  refine nr_const (v := 0) hx hb dX1_weighPlot_2 rfl ?_
  refine lv_istore (lv' := [(4, .int (nI 0)), (3, .int (nI 0)), (0, .ref w0), (1, .int (nI k)), (2, .int (nI c))]) hx hb dX1_weighPlot_3 hl (by decide) rfl (fun ls hl => ?_)
  refine loop_w (T := Nat) (nL := 5) (fun i => i ≤ 4) (fun i => 4 - i) (fun i => [(0, .ref w0), (1, .int (nI k)), (2, .int (nI c)), (3, .int (nI (sm (fun r => M (0 + 4 * k + r) * M (120 + 4 * c + r)) i))), (4, .int (nI i))]) (fun i => [(w0, .inr (1, fs)), (w1, .inl (G.2 0, 96, .inl (nA (cut 96 0 M)))), (w2, .inl (G.2 0, 28, .inl (nA (cut 28 120 M)))), (w6, .inl (G.2 0, 168, .inl (nA V)))]) ?_ 0 (lv_sub hl [2, 3, 4, 1, 0] rfl) hP hD hS (by omega)
  intro i ls H locs hl hP hD hS hi2 ih1
  have hi2_0 := hi2
  have hi2_0 : i ≤ 4 := hi2_0
  have hl : lv_has ls 5 [(0, .ref w0), (1, .int (nI k)), (2, .int (nI c)), (3, .int (nI (sm (fun r => M (0 + 4 * k + r) * M (120 + 4 * c + r)) i))), (4, .int (nI i))] := hl
  have hP : va_P G.1 vwCl [(w0, .inr (1, fs)), (w1, .inl (G.2 0, 96, .inl (nA (cut 96 0 M)))), (w2, .inl (G.2 0, 28, .inl (nA (cut 28 120 M)))), (w6, .inl (G.2 0, 168, .inl (nA V)))] _ := hP
  have hD : va_D AA [(w0, .inr (1, fs)), (w1, .inl (G.2 0, 96, .inl (nA (cut 96 0 M)))), (w2, .inl (G.2 0, 28, .inl (nA (cut 28 120 M)))), (w6, .inl (G.2 0, 168, .inl (nA V)))] := hD
  refine lv_iload hx hb dX1_weighPlot_5 (lv_at hl 4 rfl) ?_
  refine nr_const (v := 4) hx hb dX1_weighPlot_7 rfl ?_
  refine br_ige (tgt := 43) hx hb dX1_weighPlot_8 (by decide) (by omega) (by decide) (fun h3 => ?_) (fun h3 => ?_)
  · skip
    have e4 : i = 4 := (by omega)
    rw [e4] at hl
    have hl : lv_has ls 5 [(0, .ref w0), (1, .int (nI k)), (2, .int (nI c)), (3, .int (nI (wr M c k))), (4, .int (nI 4))] := hl
    refine lv_aload_n hx hb dX1_weighPlot_43 rfl (lv_at hl 0 rfl) ?_
    refine va_get (D := G.1) (ci := 1) (v := .ref w6) (C := RX1) (T := TX1) (N := 9) hx hb hts hF1 hown hK hP 0 rfl rfl 5 (by decide) (hts (.fieldLink RX1 27 "CousinShares$Harvest" "worths" "[I") (List.mem_of_getElem? (i := 3) rfl)) (fun _ h9 => h9) hf5 dX1_weighPlot_44 ?_
    refine lv_iload_n hx hb dX1_weighPlot_47 rfl (lv_at hl 1 rfl) ?_
    refine nr_bi (v := 7) hx hb dX1_weighPlot_48 (by decide +kernel) ?_
    refine nr_mul hx hb dX1_weighPlot_50 ?_
    refine lv_iload_n hx hb dX1_weighPlot_51 rfl (lv_at hl 2 rfl) ?_
    refine nr_add hx hb dX1_weighPlot_52 ?_
    refine lv_iload_n hx hb dX1_weighPlot_53 rfl (lv_at hl 3 rfl) ?_
    refine nr_ast (ws' := [(w0, .inr (1, fs)), (w1, .inl (G.2 0, 96, .inl (nA (cut 96 0 M)))), (w2, .inl (G.2 0, 28, .inl (nA (cut 28 120 M)))), (w6, .inl (G.2 0, 168, .inl (nA (va_up V ((k * 7) + c) (wr M c k)))))]) hx hb hK hP hD hS 3 rfl (by omega) (by decide) dX1_weighPlot_54 rfl (fun H locs hP hD hS => ?_)
    exact wretv hx hb hr hlk hK hS (()) hP hD (trivial) dX1_weighPlot_55
  · skip
    refine lv_iload_n hx hb dX1_weighPlot_11 rfl (lv_at hl 3 rfl) ?_
    refine lv_aload_n hx hb dX1_weighPlot_12 rfl (lv_at hl 0 rfl) ?_
    refine va_get (D := G.1) (ci := 1) (v := .ref w1) (C := RX1) (T := TX1) (N := 9) hx hb hts hF1 hown hK hP 0 rfl rfl 0 (by decide) (hts (.fieldLink RX1 9 "CousinShares$Harvest" "amounts" "[I") (List.mem_of_getElem? (i := 1) rfl)) (fun _ h9 => h9) hf0 dX1_weighPlot_13 ?_
    refine lv_iload_n hx hb dX1_weighPlot_16 rfl (lv_at hl 1 rfl) ?_
    refine nr_const (v := 4) hx hb dX1_weighPlot_17 rfl ?_
    refine nr_mul hx hb dX1_weighPlot_18 ?_
    refine lv_iload hx hb dX1_weighPlot_19 (lv_at hl 4 rfl) ?_
    refine nr_add hx hb dX1_weighPlot_21 ?_
    refine nr_ald hx hb hK hP 1 rfl (by omega) (by decide) dX1_weighPlot_22 ?_
    refine nr_top (y := nI (M (0 + 4 * k + i))) (congrArg nI (am_cut hk (by omega))) ?_
    refine lv_aload_n hx hb dX1_weighPlot_23 rfl (lv_at hl 0 rfl) ?_
    refine va_get (D := G.1) (ci := 1) (v := .ref w2) (C := RX1) (T := TX1) (N := 9) hx hb hts hF1 hown hK hP 0 rfl rfl 1 (by decide) (hts (.fieldLink RX1 15 "CousinShares$Harvest" "weights" "[I") (List.mem_of_getElem? (i := 2) rfl)) (fun _ h9 => h9) hf1 dX1_weighPlot_24 ?_
    refine lv_iload_n hx hb dX1_weighPlot_27 rfl (lv_at hl 2 rfl) ?_
    refine nr_const (v := 4) hx hb dX1_weighPlot_28 rfl ?_
    refine nr_mul hx hb dX1_weighPlot_29 ?_
    refine lv_iload hx hb dX1_weighPlot_30 (lv_at hl 4 rfl) ?_
    refine nr_add hx hb dX1_weighPlot_32 ?_
    refine nr_ald hx hb hK hP 2 rfl (by omega) (by decide) dX1_weighPlot_33 ?_
    refine nr_top (y := nI (M (120 + 4 * c + i))) (congrArg nI (we_cut hc (by omega))) ?_
    refine nr_mul hx hb dX1_weighPlot_34 ?_
    refine nr_add hx hb dX1_weighPlot_35 ?_
    refine lv_istore_n (lv' := [(3, .int (nI ((sm (fun r => M (0 + 4 * k + r) * M (120 + 4 * c + r)) i) + ((M (0 + 4 * k + i)) * (M (120 + 4 * c + i)))))), (0, .ref w0), (1, .int (nI k)), (2, .int (nI c)), (4, .int (nI i))]) hx hb dX1_weighPlot_36 rfl hl (by decide) rfl (fun ls hl => ?_)
    refine nr_inc (d := 1) (v := i + 1) (lv' := [(4, .int (nI (i + 1))), (3, .int (nI ((sm (fun r => M (0 + 4 * k + r) * M (120 + 4 * c + r)) i) + ((M (0 + 4 * k + i)) * (M (120 + 4 * c + i)))))), (0, .ref w0), (1, .int (nI k)), (2, .int (nI c))]) hx hb dX1_weighPlot_37 hl (k := 4) rfl rfl (by decide) rfl (fun ls hl => ?_)
    refine lv_goto (tgt := 5) hx hb dX1_weighPlot_40 (by decide) ?_
    exact ih1 (i + 1) ls H locs (lv_sub hl [2, 3, 4, 1, 0] rfl) hP hD hS (by omega) (by omega))

set_option maxHeartbeats 4000000 in
set_option maxRecDepth 100000 in
theorem c_X1_weighPlots (l : Launch) (G : gG) (w0 : Nat) (w1 : Nat) (w2 : Nat) (w6 : Nat) (fs : List Value) (M : Nat → Nat) (V : Nat → Nat) (c : Nat) (hf0 : fs[0]? = some (.ref w1)) (hf1 : fs[1]? = some (.ref w2)) (hf5 : fs[5]? = some (.ref w6)) (hc : c < 7) (sz : Nat) : Met l yX1_weighPlots wsX1_weighPlots ({ frames := 1, cells := 0, slots := 0, locals := 24 } : Room) (WR G [(w0, .inr (1, fs)), (w1, .inl (G.2 0, 96, .inl (nA (cut 96 0 M)))), (w2, .inl (G.2 0, 28, .inl (nA (cut 28 120 M)))), (w6, .inl (G.2 0, 168, .inl (nA V)))] sz [.ref w0, .int (nI c)]) (va_Qv (fun _ : Unit => True) (WB G (va_A [(w0, .inr (1, fs)), (w1, .inl (G.2 0, 96, .inl (nA (cut 96 0 M)))), (w2, .inl (G.2 0, 28, .inl (nA (cut 28 120 M)))), (w6, .inl (G.2 0, 168, .inl (nA V)))] sz) (fun _ : Unit => [(w0, .inr (1, fs)), (w1, .inl (G.2 0, 96, .inl (nA (cut 96 0 M)))), (w2, .inl (G.2 0, 28, .inl (nA (cut 28 120 M)))), (w6, .inl (G.2 0, 168, .inl (nA (wpF V M c 24))))])) (va_A [(w0, .inr (1, fs)), (w1, .inl (G.2 0, 96, .inl (nA (cut 96 0 M)))), (w2, .inl (G.2 0, 28, .inl (nA (cut 28 120 M)))), (w6, .inl (G.2 0, 168, .inl (nA V)))] sz)) 0 0 (va_A [(w0, .inr (1, fs)), (w1, .inl (G.2 0, 96, .inl (nA (cut 96 0 M)))), (w2, .inl (G.2 0, 28, .inl (nA (cut 28 120 M)))), (w6, .inl (G.2 0, 168, .inl (nA V)))] sz) := wrM (Qf := fun AA => va_Qv (fun _ : Unit => True) (WB G AA (fun _ : Unit => [(w0, .inr (1, fs)), (w1, .inl (G.2 0, 96, .inl (nA (cut 96 0 M)))), (w2, .inl (G.2 0, 28, .inl (nA (cut 28 120 M)))), (w6, .inl (G.2 0, 168, .inl (nA (wpF V M c 24))))])) AA) (C := RX1) rfl (by decide) rfl (Nat.le_of_ble_eq_true rfl) (fun pX eX sX mX bX meX cX ls AA hx hb hr hts hown hlk hml hin hP hK hD hAA hS hl => by
  have hl : lv_has ls 3 [(0, .ref w0), (1, .int (nI c))] := hl
  refine nr_const (v := 0) hx hb dX1_weighPlots_0 rfl ?_
  refine lv_istore_n (lv' := [(2, .int (nI 0)), (0, .ref w0), (1, .int (nI c))]) hx hb dX1_weighPlots_1 rfl hl (by decide) rfl (fun ls hl => ?_)
  rw [← wpF_0 V M c] at hP hD
  refine loop_w (T := Nat) (nL := 3) (fun i => i ≤ 24) (fun i => 24 - i) (fun i => [(0, .ref w0), (1, .int (nI c)), (2, .int (nI i))]) (fun i => [(w0, .inr (1, fs)), (w1, .inl (G.2 0, 96, .inl (nA (cut 96 0 M)))), (w2, .inl (G.2 0, 28, .inl (nA (cut 28 120 M)))), (w6, .inl (G.2 0, 168, .inl (nA (wpF V M c i))))]) ?_ 0 (lv_sub hl [1, 2, 0] rfl) hP hD hS (by omega)
  intro i ls H locs hl hP hD hS hi2 ih1
  have hi2_0 := hi2
  have hi2_0 : i ≤ 24 := hi2_0
  have hl : lv_has ls 3 [(0, .ref w0), (1, .int (nI c)), (2, .int (nI i))] := hl
  have hP : va_P G.1 vwCl [(w0, .inr (1, fs)), (w1, .inl (G.2 0, 96, .inl (nA (cut 96 0 M)))), (w2, .inl (G.2 0, 28, .inl (nA (cut 28 120 M)))), (w6, .inl (G.2 0, 168, .inl (nA (wpF V M c i))))] _ := hP
  have hD : va_D AA [(w0, .inr (1, fs)), (w1, .inl (G.2 0, 96, .inl (nA (cut 96 0 M)))), (w2, .inl (G.2 0, 28, .inl (nA (cut 28 120 M)))), (w6, .inl (G.2 0, 168, .inl (nA (wpF V M c i))))] := hD
  refine lv_iload_n hx hb dX1_weighPlots_2 rfl (lv_at hl 2 rfl) ?_
  refine nr_bi (v := 24) hx hb dX1_weighPlots_3 (by decide +kernel) ?_
  refine br_ige (tgt := 20) hx hb dX1_weighPlots_5 (by decide) (by omega) (by decide) (fun h3 => ?_) (fun h3 => ?_)
  · skip
    have e2 : i = 24 := (by omega)
    subst e2
    exact wretv hx hb hr hlk hK hS (()) hP hD (trivial) dX1_weighPlots_20
  · skip
    refine lv_aload_n hx hb dX1_weighPlots_8 rfl (lv_at hl 0 rfl) ?_
    refine lv_iload_n hx hb dX1_weighPlots_9 rfl (lv_at hl 2 rfl) ?_
    refine lv_iload_n hx hb dX1_weighPlots_10 rfl (lv_at hl 1 rfl) ?_
    refine wcVv (As := [.int (nI i), .int (nI c)]) (ws := [(w0, .inr (1, fs)), (w1, .inl (G.2 0, 96, .inl (nA (cut 96 0 M)))), (w2, .inl (G.2 0, 28, .inl (nA (cut 28 120 M)))), (w6, .inl (G.2 0, 168, .inl (nA (wpF V M c i))))]) (wc := [(w0, .inr (1, fs)), (w1, .inl (G.2 0, 96, .inl (nA (cut 96 0 M)))), (w2, .inl (G.2 0, 28, .inl (nA (cut 28 120 M)))), (w6, .inl (G.2 0, 168, .inl (nA (wpF V M c i))))]) (wr := []) (wn := fun _ => [(w0, .inr (1, fs)), (w1, .inl (G.2 0, 96, .inl (nA (cut 96 0 M)))), (w2, .inl (G.2 0, 28, .inl (nA (cut 28 120 M)))), (w6, .inl (G.2 0, 168, .inl (nA (va_up (wpF V M c i) (i * 7 + c) (wr M c i)))))]) ⟨hx, hb, hml, hown, hts⟩ (c_X1_weighPlot l G w0 w1 w2 w6 fs M (wpF V M c i) i c hf0 hf1 hf5 (by omega) (by omega) _) (cwV 2 hts gX1_weighPlots_X1_weighPlot rfl rfl rfl (by decide +kernel) ⟨Nat.le_of_ble_eq_true rfl, Nat.le_of_ble_eq_true rfl⟩) hK hP hD hS hAA [0, 1, 2, 3] [] [0, 1, 2, 3] rfl rfl rfl rfl (by decide) rfl (fun _ => rfl) 1 0 rfl rfl rfl hl.1 rfl (Nat.le_of_ble_eq_true rfl) dX1_weighPlots_11 ⟨by first | exact Nat.le_of_ble_eq_true rfl | omega, by first | exact Nat.le_of_ble_eq_true rfl | omega⟩ (fun uu H locs hw4 hP hD hS => ?_)
    have hP : va_P G.1 vwCl [(w0, .inr (1, fs)), (w1, .inl (G.2 0, 96, .inl (nA (cut 96 0 M)))), (w2, .inl (G.2 0, 28, .inl (nA (cut 28 120 M)))), (w6, .inl (G.2 0, 168, .inl (nA (va_up (wpF V M c i) (i * 7 + c) (wr M c i)))))] _ := hP
    have hD : va_D AA [(w0, .inr (1, fs)), (w1, .inl (G.2 0, 96, .inl (nA (cut 96 0 M)))), (w2, .inl (G.2 0, 28, .inl (nA (cut 28 120 M)))), (w6, .inl (G.2 0, 168, .inl (nA (va_up (wpF V M c i) (i * 7 + c) (wr M c i)))))] := hD
    refine nr_inc (d := 1) (v := i + 1) (lv' := [(2, .int (nI (i + 1))), (0, .ref w0), (1, .int (nI c))]) hx hb dX1_weighPlots_14 hl (k := 2) rfl rfl (by decide) rfl (fun ls hl => ?_)
    refine lv_goto (tgt := 2) hx hb dX1_weighPlots_17 (by decide) ?_
    rw [wpF_s V M hc] at hP hD
    exact ih1 (i + 1) ls H locs (lv_sub hl [1, 2, 0] rfl) hP hD hS (by omega) (by omega))

set_option maxHeartbeats 4000000 in
set_option maxRecDepth 100000 in
theorem c_X1_putAmount (l : Launch) (G : gG) (w0 : Nat) (w1 : Nat) (w2 : Nat) (w6 : Nat) (fs : List Value) (M : Nat → Nat) (k : Nat) (r : Nat) (v : Nat) (hf0 : fs[0]? = some (.ref w1)) (hf1 : fs[1]? = some (.ref w2)) (hf5 : fs[5]? = some (.ref w6)) (hk : k < 24) (hr4 : r < 4) (sz : Nat) : Met l yX1_putAmount wsX1_putAmount ({ frames := 1, cells := 0, slots := 0, locals := 24 } : Room) (WR G [(w0, .inr (1, fs)), (w1, .inl (G.2 0, 96, .inl (nA (cut 96 0 M)))), (w2, .inl (G.2 0, 28, .inl (nA (cut 28 120 M)))), (w6, .inl (G.2 0, 168, .inl (nA (vv M))))] sz [.ref w0, .int (nI k), .int (nI r), .int (nI v)]) (va_Qv (fun _ : Unit => True) (WB G (va_A [(w0, .inr (1, fs)), (w1, .inl (G.2 0, 96, .inl (nA (cut 96 0 M)))), (w2, .inl (G.2 0, 28, .inl (nA (cut 28 120 M)))), (w6, .inl (G.2 0, 168, .inl (nA (vv M))))] sz) (fun _ : Unit => [(w0, .inr (1, fs)), (w1, .inl (G.2 0, 96, .inl (nA (cut 96 0 (va_up M (0 + (k * 4 + r)) v))))), (w2, .inl (G.2 0, 28, .inl (nA (cut 28 120 (va_up M (0 + (k * 4 + r)) v))))), (w6, .inl (G.2 0, 168, .inl (nA (vv (va_up M (0 + (k * 4 + r)) v)))))])) (va_A [(w0, .inr (1, fs)), (w1, .inl (G.2 0, 96, .inl (nA (cut 96 0 M)))), (w2, .inl (G.2 0, 28, .inl (nA (cut 28 120 M)))), (w6, .inl (G.2 0, 168, .inl (nA (vv M))))] sz)) 0 0 (va_A [(w0, .inr (1, fs)), (w1, .inl (G.2 0, 96, .inl (nA (cut 96 0 M)))), (w2, .inl (G.2 0, 28, .inl (nA (cut 28 120 M)))), (w6, .inl (G.2 0, 168, .inl (nA (vv M))))] sz) := wrM (Qf := fun AA => va_Qv (fun _ : Unit => True) (WB G AA (fun _ : Unit => [(w0, .inr (1, fs)), (w1, .inl (G.2 0, 96, .inl (nA (cut 96 0 (va_up M (0 + (k * 4 + r)) v))))), (w2, .inl (G.2 0, 28, .inl (nA (cut 28 120 (va_up M (0 + (k * 4 + r)) v))))), (w6, .inl (G.2 0, 168, .inl (nA (vv (va_up M (0 + (k * 4 + r)) v)))))])) AA) (C := RX1) rfl (by decide) rfl (Nat.le_of_ble_eq_true rfl) (fun pX eX sX mX bX meX cX ls AA hx hb hr hts hown hlk hml hin hP hK hD hAA hS hl => by
  have hl : lv_has ls 5 [(0, .ref w0), (1, .int (nI k)), (2, .int (nI r)), (3, .int (nI v))] := hl
  have hF1 : ∀ w ∈ wsX10, w ∈ wsX1_putAmount := fun _ h => (List.mem_cons_of_mem _ (List.mem_append_right _ h))
  refine lv_aload_n hx hb dX1_putAmount_0 rfl (lv_at hl 0 rfl) ?_
  refine va_get (D := G.1) (ci := 1) (v := .ref w1) (C := RX1) (T := TX1) (N := 9) hx hb hts hF1 hown hK hP 0 rfl rfl 0 (by decide) (hts (.fieldLink RX1 9 "CousinShares$Harvest" "amounts" "[I") (List.mem_of_getElem? (i := 1) rfl)) (fun _ h9 => h9) hf0 dX1_putAmount_1 ?_
  refine lv_iload_n hx hb dX1_putAmount_4 rfl (lv_at hl 1 rfl) ?_
  refine nr_const (v := 4) hx hb dX1_putAmount_5 rfl ?_
  refine nr_mul hx hb dX1_putAmount_6 ?_
  refine lv_iload_n hx hb dX1_putAmount_7 rfl (lv_at hl 2 rfl) ?_
  refine nr_add hx hb dX1_putAmount_8 ?_
  refine lv_iload_n hx hb dX1_putAmount_9 rfl (lv_at hl 3 rfl) ?_
  refine nr_ast (ws' := [(w0, .inr (1, fs)), (w1, .inl (G.2 0, 96, .inl (nA (va_up (cut 96 0 M) ((k * 4) + r) v)))), (w2, .inl (G.2 0, 28, .inl (nA (cut 28 120 M)))), (w6, .inl (G.2 0, 168, .inl (nA (vv M))))]) hx hb hK hP hD hS 1 rfl (by omega) (by decide) dX1_putAmount_10 rfl (fun H locs hP hD hS => ?_)
  rw [cut_up (show k * 4 + r < 96 by omega), cut_c (n := 28) (o := 120) (M := M) (M' := (va_up M (0 + (k * 4 + r)) v)) (fun j hj => by unfold va_up; rw [if_neg (by omega)])] at hP hD
  have hP : va_P G.1 vwCl [(w0, .inr (1, fs)), (w1, .inl (G.2 0, 96, .inl (nA (cut 96 0 (va_up M (0 + (k * 4 + r)) v))))), (w2, .inl (G.2 0, 28, .inl (nA (cut 28 120 (va_up M (0 + (k * 4 + r)) v))))), (w6, .inl (G.2 0, 168, .inl (nA (vv M))))] _ := hP
  have hD : va_D AA [(w0, .inr (1, fs)), (w1, .inl (G.2 0, 96, .inl (nA (cut 96 0 (va_up M (0 + (k * 4 + r)) v))))), (w2, .inl (G.2 0, 28, .inl (nA (cut 28 120 (va_up M (0 + (k * 4 + r)) v))))), (w6, .inl (G.2 0, 168, .inl (nA (vv M))))] := hD
  refine nr_const (v := 0) hx hb dX1_putAmount_11 rfl ?_
  refine lv_istore (lv' := [(4, .int (nI 0)), (0, .ref w0), (1, .int (nI k)), (2, .int (nI r)), (3, .int (nI v))]) hx hb dX1_putAmount_12 hl (by decide) rfl (fun ls hl => ?_)
  rw [← wqF_0 (vv M) (va_up M (0 + (k * 4 + r)) v) k] at hP hD
  refine loop_w (T := Nat) (nL := 5) (fun i => i ≤ 7) (fun i => 7 - i) (fun i => [(0, .ref w0), (1, .int (nI k)), (4, .int (nI i))]) (fun i => [(w0, .inr (1, fs)), (w1, .inl (G.2 0, 96, .inl (nA (cut 96 0 (va_up M (0 + (k * 4 + r)) v))))), (w2, .inl (G.2 0, 28, .inl (nA (cut 28 120 (va_up M (0 + (k * 4 + r)) v))))), (w6, .inl (G.2 0, 168, .inl (nA (wqF (vv M) (va_up M (0 + (k * 4 + r)) v) k i))))]) ?_ 0 (lv_sub hl [1, 2, 0] rfl) hP hD hS (by omega)
  intro i ls H locs hl hP hD hS hi2 ih1
  have hi2_0 := hi2
  have hi2_0 : i ≤ 7 := hi2_0
  have hl : lv_has ls 5 [(0, .ref w0), (1, .int (nI k)), (4, .int (nI i))] := hl
  have hP : va_P G.1 vwCl [(w0, .inr (1, fs)), (w1, .inl (G.2 0, 96, .inl (nA (cut 96 0 (va_up M (0 + (k * 4 + r)) v))))), (w2, .inl (G.2 0, 28, .inl (nA (cut 28 120 (va_up M (0 + (k * 4 + r)) v))))), (w6, .inl (G.2 0, 168, .inl (nA (wqF (vv M) (va_up M (0 + (k * 4 + r)) v) k i))))] _ := hP
  have hD : va_D AA [(w0, .inr (1, fs)), (w1, .inl (G.2 0, 96, .inl (nA (cut 96 0 (va_up M (0 + (k * 4 + r)) v))))), (w2, .inl (G.2 0, 28, .inl (nA (cut 28 120 (va_up M (0 + (k * 4 + r)) v))))), (w6, .inl (G.2 0, 168, .inl (nA (wqF (vv M) (va_up M (0 + (k * 4 + r)) v) k i))))] := hD
  refine lv_iload hx hb dX1_putAmount_14 (lv_at hl 2 rfl) ?_
  refine nr_bi (v := 7) hx hb dX1_putAmount_16 (by decide +kernel) ?_
  refine br_ige (tgt := 34) hx hb dX1_putAmount_18 (by decide) (by omega) (by decide) (fun h3 => ?_) (fun h3 => ?_)
  · skip
    have e2 : i = 7 := (by omega)
    subst e2
    rw [wqF_e hk (fun d q hd hq hqk => wr_a hr4 hk hqk)] at hP hD
    exact wretv hx hb hr hlk hK hS (()) hP hD (trivial) dX1_putAmount_34
  · skip
    refine lv_aload_n hx hb dX1_putAmount_21 rfl (lv_at hl 0 rfl) ?_
    refine lv_iload_n hx hb dX1_putAmount_22 rfl (lv_at hl 1 rfl) ?_
    refine lv_iload hx hb dX1_putAmount_23 (lv_at hl 2 rfl) ?_
    refine wcVv (As := [.int (nI k), .int (nI i)]) (ws := [(w0, .inr (1, fs)), (w1, .inl (G.2 0, 96, .inl (nA (cut 96 0 (va_up M (0 + (k * 4 + r)) v))))), (w2, .inl (G.2 0, 28, .inl (nA (cut 28 120 (va_up M (0 + (k * 4 + r)) v))))), (w6, .inl (G.2 0, 168, .inl (nA (wqF (vv M) (va_up M (0 + (k * 4 + r)) v) k i))))]) (wc := [(w0, .inr (1, fs)), (w1, .inl (G.2 0, 96, .inl (nA (cut 96 0 (va_up M (0 + (k * 4 + r)) v))))), (w2, .inl (G.2 0, 28, .inl (nA (cut 28 120 (va_up M (0 + (k * 4 + r)) v))))), (w6, .inl (G.2 0, 168, .inl (nA (wqF (vv M) (va_up M (0 + (k * 4 + r)) v) k i))))]) (wr := []) (wn := fun _ => [(w0, .inr (1, fs)), (w1, .inl (G.2 0, 96, .inl (nA (cut 96 0 (va_up M (0 + (k * 4 + r)) v))))), (w2, .inl (G.2 0, 28, .inl (nA (cut 28 120 (va_up M (0 + (k * 4 + r)) v))))), (w6, .inl (G.2 0, 168, .inl (nA (va_up (wqF (vv M) (va_up M (0 + (k * 4 + r)) v) k i) (k * 7 + i) (wr (va_up M (0 + (k * 4 + r)) v) i k)))))]) ⟨hx, hb, hml, hown, hts⟩ (c_X1_weighPlot l G w0 w1 w2 w6 fs (va_up M (0 + (k * 4 + r)) v) (wqF (vv M) (va_up M (0 + (k * 4 + r)) v) k i) k i hf0 hf1 hf5 (by omega) (by omega) _) (cwV 2 hts gX1_putAmount_X1_weighPlot rfl rfl rfl (by decide +kernel) ⟨Nat.le_of_ble_eq_true rfl, Nat.le_of_ble_eq_true rfl⟩) hK hP hD hS hAA [0, 1, 2, 3] [] [0, 1, 2, 3] rfl rfl rfl rfl (by decide) rfl (fun _ => rfl) 1 0 rfl rfl rfl hl.1 rfl (Nat.le_of_ble_eq_true rfl) dX1_putAmount_25 ⟨by first | exact Nat.le_of_ble_eq_true rfl | omega, by first | exact Nat.le_of_ble_eq_true rfl | omega⟩ (fun uu H locs hw4 hP hD hS => ?_)
    have hP : va_P G.1 vwCl [(w0, .inr (1, fs)), (w1, .inl (G.2 0, 96, .inl (nA (cut 96 0 (va_up M (0 + (k * 4 + r)) v))))), (w2, .inl (G.2 0, 28, .inl (nA (cut 28 120 (va_up M (0 + (k * 4 + r)) v))))), (w6, .inl (G.2 0, 168, .inl (nA (va_up (wqF (vv M) (va_up M (0 + (k * 4 + r)) v) k i) (k * 7 + i) (wr (va_up M (0 + (k * 4 + r)) v) i k)))))] _ := hP
    have hD : va_D AA [(w0, .inr (1, fs)), (w1, .inl (G.2 0, 96, .inl (nA (cut 96 0 (va_up M (0 + (k * 4 + r)) v))))), (w2, .inl (G.2 0, 28, .inl (nA (cut 28 120 (va_up M (0 + (k * 4 + r)) v))))), (w6, .inl (G.2 0, 168, .inl (nA (va_up (wqF (vv M) (va_up M (0 + (k * 4 + r)) v) k i) (k * 7 + i) (wr (va_up M (0 + (k * 4 + r)) v) i k)))))] := hD
    refine nr_inc (d := 1) (v := i + 1) (lv' := [(4, .int (nI (i + 1))), (0, .ref w0), (1, .int (nI k))]) hx hb dX1_putAmount_28 hl (k := 2) rfl rfl (by decide) rfl (fun ls hl => ?_)
    refine lv_goto (tgt := 14) hx hb dX1_putAmount_31 (by decide) ?_
    rw [wqF_s (vv M) (va_up M (0 + (k * 4 + r)) v) k (by omega)] at hP hD
    exact ih1 (i + 1) ls H locs (lv_sub hl [1, 2, 0] rfl) hP hD hS (by omega) (by omega))

set_option maxHeartbeats 4000000 in
set_option maxRecDepth 100000 in
theorem c_X1_putWeight (l : Launch) (G : gG) (w0 : Nat) (w1 : Nat) (w2 : Nat) (w6 : Nat) (fs : List Value) (M : Nat → Nat) (c : Nat) (r : Nat) (v : Nat) (hf0 : fs[0]? = some (.ref w1)) (hf1 : fs[1]? = some (.ref w2)) (hf5 : fs[5]? = some (.ref w6)) (hc : c < 7) (hr4 : r < 4) (sz : Nat) : Met l yX1_putWeight wsX1_putWeight ({ frames := 2, cells := 0, slots := 0, locals := 46 } : Room) (WR G [(w0, .inr (1, fs)), (w1, .inl (G.2 0, 96, .inl (nA (cut 96 0 M)))), (w2, .inl (G.2 0, 28, .inl (nA (cut 28 120 M)))), (w6, .inl (G.2 0, 168, .inl (nA (vv M))))] sz [.ref w0, .int (nI c), .int (nI r), .int (nI v)]) (va_Qv (fun _ : Unit => True) (WB G (va_A [(w0, .inr (1, fs)), (w1, .inl (G.2 0, 96, .inl (nA (cut 96 0 M)))), (w2, .inl (G.2 0, 28, .inl (nA (cut 28 120 M)))), (w6, .inl (G.2 0, 168, .inl (nA (vv M))))] sz) (fun _ : Unit => [(w0, .inr (1, fs)), (w1, .inl (G.2 0, 96, .inl (nA (cut 96 0 (va_up M (120 + (c * 4 + r)) v))))), (w2, .inl (G.2 0, 28, .inl (nA (cut 28 120 (va_up M (120 + (c * 4 + r)) v))))), (w6, .inl (G.2 0, 168, .inl (nA (vv (va_up M (120 + (c * 4 + r)) v)))))])) (va_A [(w0, .inr (1, fs)), (w1, .inl (G.2 0, 96, .inl (nA (cut 96 0 M)))), (w2, .inl (G.2 0, 28, .inl (nA (cut 28 120 M)))), (w6, .inl (G.2 0, 168, .inl (nA (vv M))))] sz)) 0 0 (va_A [(w0, .inr (1, fs)), (w1, .inl (G.2 0, 96, .inl (nA (cut 96 0 M)))), (w2, .inl (G.2 0, 28, .inl (nA (cut 28 120 M)))), (w6, .inl (G.2 0, 168, .inl (nA (vv M))))] sz) := wrM (Qf := fun AA => va_Qv (fun _ : Unit => True) (WB G AA (fun _ : Unit => [(w0, .inr (1, fs)), (w1, .inl (G.2 0, 96, .inl (nA (cut 96 0 (va_up M (120 + (c * 4 + r)) v))))), (w2, .inl (G.2 0, 28, .inl (nA (cut 28 120 (va_up M (120 + (c * 4 + r)) v))))), (w6, .inl (G.2 0, 168, .inl (nA (vv (va_up M (120 + (c * 4 + r)) v)))))])) AA) (C := RX1) rfl (by decide) rfl (Nat.le_of_ble_eq_true rfl) (fun pX eX sX mX bX meX cX ls AA hx hb hr hts hown hlk hml hin hP hK hD hAA hS hl => by
  have hl : lv_has ls 4 [(0, .ref w0), (1, .int (nI c)), (2, .int (nI r)), (3, .int (nI v))] := hl
  have hF1 : ∀ w ∈ wsX10, w ∈ wsX1_putWeight := fun _ h => (List.mem_cons_of_mem _ (List.mem_append_right _ h))
  refine lv_aload_n hx hb dX1_putWeight_0 rfl (lv_at hl 0 rfl) ?_
  refine va_get (D := G.1) (ci := 1) (v := .ref w2) (C := RX1) (T := TX1) (N := 9) hx hb hts hF1 hown hK hP 0 rfl rfl 1 (by decide) (hts (.fieldLink RX1 15 "CousinShares$Harvest" "weights" "[I") (List.mem_of_getElem? (i := 1) rfl)) (fun _ h9 => h9) hf1 dX1_putWeight_1 ?_
  refine lv_iload_n hx hb dX1_putWeight_4 rfl (lv_at hl 1 rfl) ?_
  refine nr_const (v := 4) hx hb dX1_putWeight_5 rfl ?_
  refine nr_mul hx hb dX1_putWeight_6 ?_
  refine lv_iload_n hx hb dX1_putWeight_7 rfl (lv_at hl 2 rfl) ?_
  refine nr_add hx hb dX1_putWeight_8 ?_
  refine lv_iload_n hx hb dX1_putWeight_9 rfl (lv_at hl 3 rfl) ?_
  refine nr_ast (ws' := [(w0, .inr (1, fs)), (w1, .inl (G.2 0, 96, .inl (nA (cut 96 0 M)))), (w2, .inl (G.2 0, 28, .inl (nA (va_up (cut 28 120 M) ((c * 4) + r) v)))), (w6, .inl (G.2 0, 168, .inl (nA (vv M))))]) hx hb hK hP hD hS 2 rfl (by omega) (by decide) dX1_putWeight_10 rfl (fun H locs hP hD hS => ?_)
  rw [cut_up (show c * 4 + r < 28 by omega), cut_c (n := 96) (o := 0) (M := M) (M' := (va_up M (120 + (c * 4 + r)) v)) (fun j hj => by unfold va_up; rw [if_neg (by omega)])] at hP hD
  have hP : va_P G.1 vwCl [(w0, .inr (1, fs)), (w1, .inl (G.2 0, 96, .inl (nA (cut 96 0 (va_up M (120 + (c * 4 + r)) v))))), (w2, .inl (G.2 0, 28, .inl (nA (cut 28 120 (va_up M (120 + (c * 4 + r)) v))))), (w6, .inl (G.2 0, 168, .inl (nA (vv M))))] _ := hP
  have hD : va_D AA [(w0, .inr (1, fs)), (w1, .inl (G.2 0, 96, .inl (nA (cut 96 0 (va_up M (120 + (c * 4 + r)) v))))), (w2, .inl (G.2 0, 28, .inl (nA (cut 28 120 (va_up M (120 + (c * 4 + r)) v))))), (w6, .inl (G.2 0, 168, .inl (nA (vv M))))] := hD
  refine lv_aload_n hx hb dX1_putWeight_11 rfl (lv_at hl 0 rfl) ?_
  refine lv_iload_n hx hb dX1_putWeight_12 rfl (lv_at hl 1 rfl) ?_
  refine wcVv (As := [.int (nI c)]) (ws := [(w0, .inr (1, fs)), (w1, .inl (G.2 0, 96, .inl (nA (cut 96 0 (va_up M (120 + (c * 4 + r)) v))))), (w2, .inl (G.2 0, 28, .inl (nA (cut 28 120 (va_up M (120 + (c * 4 + r)) v))))), (w6, .inl (G.2 0, 168, .inl (nA (vv M))))]) (wc := [(w0, .inr (1, fs)), (w1, .inl (G.2 0, 96, .inl (nA (cut 96 0 (va_up M (120 + (c * 4 + r)) v))))), (w2, .inl (G.2 0, 28, .inl (nA (cut 28 120 (va_up M (120 + (c * 4 + r)) v))))), (w6, .inl (G.2 0, 168, .inl (nA (vv M))))]) (wr := []) (wn := fun _ => [(w0, .inr (1, fs)), (w1, .inl (G.2 0, 96, .inl (nA (cut 96 0 (va_up M (120 + (c * 4 + r)) v))))), (w2, .inl (G.2 0, 28, .inl (nA (cut 28 120 (va_up M (120 + (c * 4 + r)) v))))), (w6, .inl (G.2 0, 168, .inl (nA (wpF (vv M) (va_up M (120 + (c * 4 + r)) v) c 24))))]) ⟨hx, hb, hml, hown, hts⟩ (c_X1_weighPlots l G w0 w1 w2 w6 fs (va_up M (120 + (c * 4 + r)) v) (vv M) c hf0 hf1 hf5 (by omega) _) (cwV 1 hts gX1_putWeight_X1_weighPlots rfl rfl rfl (by decide +kernel) ⟨Nat.le_of_ble_eq_true rfl, Nat.le_of_ble_eq_true rfl⟩) hK hP hD hS hAA [0, 1, 2, 3] [] [0, 1, 2, 3] rfl rfl rfl rfl (by decide) rfl (fun _ => rfl) 1 0 rfl rfl rfl hl.1 rfl (Nat.le_of_ble_eq_true rfl) dX1_putWeight_13 ⟨by first | exact Nat.le_of_ble_eq_true rfl | omega, by first | exact Nat.le_of_ble_eq_true rfl | omega⟩ (fun uu H locs hw1 hP hD hS => ?_)
  have hP : va_P G.1 vwCl [(w0, .inr (1, fs)), (w1, .inl (G.2 0, 96, .inl (nA (cut 96 0 (va_up M (120 + (c * 4 + r)) v))))), (w2, .inl (G.2 0, 28, .inl (nA (cut 28 120 (va_up M (120 + (c * 4 + r)) v))))), (w6, .inl (G.2 0, 168, .inl (nA (wpF (vv M) (va_up M (120 + (c * 4 + r)) v) c 24))))] _ := hP
  have hD : va_D AA [(w0, .inr (1, fs)), (w1, .inl (G.2 0, 96, .inl (nA (cut 96 0 (va_up M (120 + (c * 4 + r)) v))))), (w2, .inl (G.2 0, 28, .inl (nA (cut 28 120 (va_up M (120 + (c * 4 + r)) v))))), (w6, .inl (G.2 0, 168, .inl (nA (wpF (vv M) (va_up M (120 + (c * 4 + r)) v) c 24))))] := hD
  rw [wpF_e hc (fun d q hd hq hqk => wr_w hr4 hd hq hqk)] at hP hD
  exact wretv hx hb hr hlk hK hS (()) hP hD (trivial) dX1_putWeight_16)

set_option maxHeartbeats 4000000 in
set_option maxRecDepth 100000 in
theorem c_X1_putGrudge (l : Launch) (G : gG) (w0 : Nat) (w3 : Nat) (fs : List Value) (M : Nat → Nat) (c : Nat) (d : Nat) (v : Nat) (hf2 : fs[2]? = some (.ref w3)) (hc : c < 7) (hd : d < 7) (sz : Nat) : Met l yX1_putGrudge wsX1_putGrudge ({ frames := 0, cells := 0, slots := 0, locals := 0 } : Room) (WR G [(w0, .inr (1, fs)), (w3, .inl (G.2 0, 49, .inl (nA (cut 49 148 M))))] sz [.ref w0, .int (nI c), .int (nI d), .int (nI v)]) (va_Qv (fun _ : Unit => True) (WB G (va_A [(w0, .inr (1, fs)), (w3, .inl (G.2 0, 49, .inl (nA (cut 49 148 M))))] sz) (fun _ : Unit => [(w0, .inr (1, fs)), (w3, .inl (G.2 0, 49, .inl (nA (cut 49 148 (va_up M (148 + (c * 7 + d)) v)))))])) (va_A [(w0, .inr (1, fs)), (w3, .inl (G.2 0, 49, .inl (nA (cut 49 148 M))))] sz)) 0 0 (va_A [(w0, .inr (1, fs)), (w3, .inl (G.2 0, 49, .inl (nA (cut 49 148 M))))] sz) := wrM (Qf := fun AA => va_Qv (fun _ : Unit => True) (WB G AA (fun _ : Unit => [(w0, .inr (1, fs)), (w3, .inl (G.2 0, 49, .inl (nA (cut 49 148 (va_up M (148 + (c * 7 + d)) v)))))])) AA) (C := RX1) rfl (by decide) rfl (Nat.le_of_ble_eq_true rfl) (fun pX eX sX mX bX meX cX ls AA hx hb hr hts hown hlk hml hin hP hK hD hAA hS hl => by
  have hl : lv_has ls 4 [(0, .ref w0), (1, .int (nI c)), (2, .int (nI d)), (3, .int (nI v))] := hl
  have hF1 : ∀ w ∈ wsX10, w ∈ wsX1_putGrudge := fun _ h => (List.mem_cons_of_mem _ (List.mem_append_right _ h))
  refine lv_aload_n hx hb dX1_putGrudge_0 rfl (lv_at hl 0 rfl) ?_
  refine va_get (D := G.1) (ci := 1) (v := .ref w3) (C := RX1) (T := TX1) (N := 9) hx hb hts hF1 hown hK hP 0 rfl rfl 2 (by decide) (hts (.fieldLink RX1 18 "CousinShares$Harvest" "grudges" "[I") (List.mem_of_getElem? (i := 1) rfl)) (fun _ h9 => h9) hf2 dX1_putGrudge_1 ?_
  refine lv_iload_n hx hb dX1_putGrudge_4 rfl (lv_at hl 1 rfl) ?_
  refine nr_bi (v := 7) hx hb dX1_putGrudge_5 (by decide +kernel) ?_
  refine nr_mul hx hb dX1_putGrudge_7 ?_
  refine lv_iload_n hx hb dX1_putGrudge_8 rfl (lv_at hl 2 rfl) ?_
  refine nr_add hx hb dX1_putGrudge_9 ?_
  refine lv_iload_n hx hb dX1_putGrudge_10 rfl (lv_at hl 3 rfl) ?_
  refine nr_ast (ws' := [(w0, .inr (1, fs)), (w3, .inl (G.2 0, 49, .inl (nA (va_up (cut 49 148 M) ((c * 7) + d) v))))]) hx hb hK hP hD hS 1 rfl (by omega) (by decide) dX1_putGrudge_11 rfl (fun H locs hP hD hS => ?_)
  rw [cut_up (show c * 7 + d < 49 by omega)] at hP hD
  exact wretv hx hb hr hlk hK hS (()) hP hD (trivial) dX1_putGrudge_12)
