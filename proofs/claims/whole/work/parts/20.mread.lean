set_option maxHeartbeats 4000000 in
set_option maxRecDepth 100000 in
theorem c_X6_in (l : Launch) (x : Int32) (lo : Int32) (hi : Int32)  : Met l yX6_in wsX6_in ({ frames := 0, cells := 0, slots := 0, locals := 0 } : Room) (RS [.int x, .int lo, .int hi]) (QcRead (nI (bb (¬ (x < lo) ∧ ¬ (hi < x))))) 0 0 noF := stM (C := RX6) rfl (by decide) rfl (Nat.le_of_ble_eq_true rfl) (fun pX eX sX mX bX meX cX ls hx hb hr hts hown hlk hml hl => by
  have hl : lv_has ls 3 [(0, .int x), (1, .int lo), (2, .int hi)] := hl
  refine lv_iload_n hx hb dX6_in_0 rfl (lv_at hl 0 rfl) ?_
  refine lv_iload_n hx hb dX6_in_1 rfl (lv_at hl 1 rfl) ?_
  refine join_v (T := Nat) (J := 15) (nL := 3) (fun v => [(0, .int x), (1, .int lo), (2, .int hi)]) (fun v => [.int (nI v)]) (fun v => v = bb (¬ (x < lo) ∧ (¬ (hi < x)))) ?_ (fun jj1 => ?_)
  · intro v ls hl hv2
    subst hv2
    exact rretz hx hb hr hlk (rfl) dX6_in_15
  · skip
    refine lv_icmp_lt (tgt := 14) hx hb dX6_in_2 (by decide) (fun h3 => ?_) (fun h3 => ?_)
    · skip
      refine nr_const (v := 0) hx hb dX6_in_14 rfl ?_
      exact jj1 0 ls (lv_sub hl [0, 1, 2] rfl) (bb_f (fun q => q.1 h3)).symm
    · skip
      refine lv_iload_n hx hb dX6_in_5 rfl (lv_at hl 0 rfl) ?_
      refine lv_iload_n hx hb dX6_in_6 rfl (lv_at hl 2 rfl) ?_
      refine lv_icmp_gt (tgt := 14) hx hb dX6_in_7 (by decide) (fun h4 => ?_) (fun h4 => ?_)
      · skip
        refine nr_const (v := 0) hx hb dX6_in_14 rfl ?_
        exact jj1 0 ls (lv_sub hl [0, 1, 2] rfl) (bb_f (fun q => (fun q => q h4) q.2)).symm
      · skip
        refine nr_const (v := 1) hx hb dX6_in_10 rfl ?_
        refine lv_goto (tgt := 15) hx hb dX6_in_11 (by decide) ?_
        exact jj1 1 ls (lv_sub hl [0, 1, 2] rfl) (bb_t ⟨h3, h4⟩).symm)

set_option maxHeartbeats 4000000 in
set_option maxRecDepth 100000 in
theorem c_X6_isPlot (l : Launch) (x : Int32)  : Met l yX6_isPlot wsX6_isPlot ({ frames := 1, cells := 0, slots := 0, locals := 22 } : Room) (RS [.int x]) (QcRead (nI (bb (rg x 23)))) 0 0 noF := stM (C := RX6) rfl (by decide) rfl (Nat.le_of_ble_eq_true rfl) (fun pX eX sX mX bX meX cX ls hx hb hr hts hown hlk hml hl => by
  have hl : lv_has ls 1 [(0, .int x)] := hl
  refine lv_iload_n hx hb dX6_isPlot_0 rfl (lv_at hl 0 rfl) ?_
  refine nr_const (v := 0) hx hb dX6_isPlot_1 rfl ?_
  refine nr_bi (v := 23) hx hb dX6_isPlot_2 (by decide +kernel) ?_
  refine rcS (As := [.int x, .int (nI 0), .int (nI 23)]) ⟨hx, hb, hml, hown, hts⟩ (c_X6_in l x (nI 0) (nI 23)) (va_cwS 3 hts gX6_isPlot_X6_in rfl rfl rfl (by decide +kernel) ⟨Nat.le_of_ble_eq_true rfl, Nat.le_of_ble_eq_true rfl⟩) rfl hl.1 rfl (Nat.le_of_ble_eq_true rfl) dX6_isPlot_4 ⟨Nat.zero_le _, Nat.zero_le _⟩ ?_
  exact rretz hx hb hr hlk (rfl) dX6_isPlot_7)

set_option maxHeartbeats 4000000 in
set_option maxRecDepth 100000 in
theorem c_X6_isCrop (l : Launch) (x : Int32)  : Met l yX6_isCrop wsX6_isCrop ({ frames := 1, cells := 0, slots := 0, locals := 22 } : Room) (RS [.int x]) (QcRead (nI (bb (rg x 3)))) 0 0 noF := stM (C := RX6) rfl (by decide) rfl (Nat.le_of_ble_eq_true rfl) (fun pX eX sX mX bX meX cX ls hx hb hr hts hown hlk hml hl => by
  have hl : lv_has ls 1 [(0, .int x)] := hl
  refine lv_iload_n hx hb dX6_isCrop_0 rfl (lv_at hl 0 rfl) ?_
  refine nr_const (v := 0) hx hb dX6_isCrop_1 rfl ?_
  refine nr_const (v := 3) hx hb dX6_isCrop_2 rfl ?_
  refine rcS (As := [.int x, .int (nI 0), .int (nI 3)]) ⟨hx, hb, hml, hown, hts⟩ (c_X6_in l x (nI 0) (nI 3)) (va_cwS 3 hts gX6_isCrop_X6_in rfl rfl rfl (by decide +kernel) ⟨Nat.le_of_ble_eq_true rfl, Nat.le_of_ble_eq_true rfl⟩) rfl hl.1 rfl (Nat.le_of_ble_eq_true rfl) dX6_isCrop_3 ⟨Nat.zero_le _, Nat.zero_le _⟩ ?_
  exact rretz hx hb hr hlk (rfl) dX6_isCrop_6)

set_option maxHeartbeats 4000000 in
set_option maxRecDepth 100000 in
theorem c_X6_isCousin (l : Launch) (x : Int32)  : Met l yX6_isCousin wsX6_isCousin ({ frames := 1, cells := 0, slots := 0, locals := 22 } : Room) (RS [.int x]) (QcRead (nI (bb (rg x 6)))) 0 0 noF := stM (C := RX6) rfl (by decide) rfl (Nat.le_of_ble_eq_true rfl) (fun pX eX sX mX bX meX cX ls hx hb hr hts hown hlk hml hl => by
  have hl : lv_has ls 1 [(0, .int x)] := hl
  refine lv_iload_n hx hb dX6_isCousin_0 rfl (lv_at hl 0 rfl) ?_
  refine nr_const (v := 0) hx hb dX6_isCousin_1 rfl ?_
  refine nr_bi (v := 6) hx hb dX6_isCousin_2 (by decide +kernel) ?_
  refine rcS (As := [.int x, .int (nI 0), .int (nI 6)]) ⟨hx, hb, hml, hown, hts⟩ (c_X6_in l x (nI 0) (nI 6)) (va_cwS 3 hts gX6_isCousin_X6_in rfl rfl rfl (by decide +kernel) ⟨Nat.le_of_ble_eq_true rfl, Nat.le_of_ble_eq_true rfl⟩) rfl hl.1 rfl (Nat.le_of_ble_eq_true rfl) dX6_isCousin_4 ⟨Nat.zero_le _, Nat.zero_le _⟩ ?_
  exact rretz hx hb hr hlk (rfl) dX6_isCousin_7)

set_option maxHeartbeats 4000000 in
set_option maxRecDepth 100000 in
theorem c_X6_ones (l : Launch) (A : Nat) (hA : A < 128) : Met l yX6_ones wsX6_ones ({ frames := 0, cells := 0, slots := 0, locals := 0 } : Room) (RS [.int (nI A)]) (QcRead (nI (on A))) 0 0 noF := stM (C := RX6) rfl (by decide) rfl (Nat.le_of_ble_eq_true rfl) (fun pX eX sX mX bX meX cX ls hx hb hr hts hown hlk hml hl => by
  have hl : lv_has ls 3 [(0, .int (nI A))] := hl
  refine nr_const (v := 0) hx hb dX6_ones_0 rfl ?_
  refine lv_istore_n (lv' := [(1, .int (nI 0)), (0, .int (nI A))]) hx hb dX6_ones_1 rfl hl (by decide) rfl (fun ls hl => ?_)
  refine nr_const (v := 0) hx hb dX6_ones_2 rfl ?_
  refine lv_istore_n (lv' := [(2, .int (nI 0)), (1, .int (nI 0)), (0, .int (nI A))]) hx hb dX6_ones_3 rfl hl (by decide) rfl (fun ls hl => ?_)
  refine loop_r (T := Nat) (nL := 3) (fun i => i ≤ 7) (fun i => 7 - i) (fun i => [(0, .int (nI A)), (1, .int (nI (sm (fun c => bt A c) i))), (2, .int (nI i))]) ?_ 0 (lv_sub hl [2, 1, 0] rfl) (by omega)
  intro i ls hl hi2 ih1
  have hi2_0 := hi2
  have hi2_0 : i ≤ 7 := hi2_0
  have hl : lv_has ls 3 [(0, .int (nI A)), (1, .int (nI (sm (fun c => bt A c) i))), (2, .int (nI i))] := hl
  refine lv_iload_n hx hb dX6_ones_4 rfl (lv_at hl 2 rfl) ?_
  refine nr_bi (v := 7) hx hb dX6_ones_5 (by decide +kernel) ?_
  refine br_ige (tgt := 24) hx hb dX6_ones_7 (by decide) (by omega) (by decide) (fun h3 => ?_) (fun h3 => ?_)
  · skip
    refine lv_iload_n hx hb dX6_ones_24 rfl (lv_at hl 1 rfl) ?_
    exact rret hx hb hr hlk (by have e : i = 7 := (by omega); subst e; rfl) dX6_ones_25
  · skip
    refine lv_iload_n hx hb dX6_ones_10 rfl (lv_at hl 1 rfl) ?_
    refine lv_iload_n hx hb dX6_ones_11 rfl (lv_at hl 0 rfl) ?_
    refine lv_iload_n hx hb dX6_ones_12 rfl (lv_at hl 2 rfl) ?_
    refine lv_ishr hx hb dX6_ones_13 ?_
    refine nr_const (v := 1) hx hb dX6_ones_14 rfl ?_
    refine lv_iand hx hb dX6_ones_15 ?_
    refine nr_top (bt_shr (by omega) (by omega)) ?_
    refine nr_add hx hb dX6_ones_16 ?_
    refine lv_istore_n (lv' := [(1, .int (nI ((sm (fun c => bt A c) i) + (bt A i)))), (0, .int (nI A)), (2, .int (nI i))]) hx hb dX6_ones_17 rfl hl (by decide) rfl (fun ls hl => ?_)
    refine nr_inc (d := 1) (v := i + 1) (lv' := [(2, .int (nI (i + 1))), (1, .int (nI ((sm (fun c => bt A c) i) + (bt A i)))), (0, .int (nI A))]) hx hb dX6_ones_18 hl (k := 2) rfl rfl (by decide) rfl (fun ls hl => ?_)
    refine lv_goto (tgt := 4) hx hb dX6_ones_21 (by decide) ?_
    exact ih1 (i + 1) ls (lv_sub hl [2, 1, 0] rfl) (by omega) (by omega))

set_option maxHeartbeats 4000000 in
set_option maxRecDepth 100000 in
theorem c_X6_worth (l : Launch) (G : gG) (z0 : Nat) (z1 : Nat) (fs : List Value) (M : Nat → Nat) (c : Nat) (k : Nat) (hf0 : fs[0]? = some (.ref z1)) (hc : c < 7) (hk : k < 24) : Met l yX6_worth wsX6_worth ({ frames := 0, cells := 0, slots := 0, locals := 0 } : Room) (RD G [(z0, .inr (6, fs)), (z1, .inl (G.2 0, 404, .inl (nA M)))] [.ref z0, .int (nI c), .int (nI k)]) (QcRead (nI (wr M c k))) 0 0 noF := rdM (C := RX6) rfl (by decide) rfl (Nat.le_of_ble_eq_true rfl) (fun pX eX sX mX bX meX cX ls hx hb hr hts hown hlk hml hP hK hl => by
  have hl : lv_has ls 5 [(0, .ref z0), (1, .int (nI c)), (2, .int (nI k))] := hl
  have hF6 : ∀ w ∈ wsX60, w ∈ wsX6_worth := fun _ h => (List.mem_cons_of_mem _ (List.mem_append_right _ h))
  refine nr_const (v := 0) hx hb dX6_worth_0 rfl ?_
  refine lv_istore_n (lv' := [(3, .int (nI 0)), (0, .ref z0), (1, .int (nI c)), (2, .int (nI k))]) hx hb dX6_worth_1 rfl hl (by decide) rfl (fun ls hl => ?_)
  refine nr_const (v := 0) hx hb dX6_worth_2 rfl ?_
  refine lv_istore (lv' := [(4, .int (nI 0)), (3, .int (nI 0)), (0, .ref z0), (1, .int (nI c)), (2, .int (nI k))]) hx hb dX6_worth_3 hl (by decide) rfl (fun ls hl => ?_)
  refine loop_r (T := Nat) (nL := 5) (fun i => i ≤ 4) (fun i => 4 - i) (fun i => [(0, .ref z0), (1, .int (nI c)), (2, .int (nI k)), (3, .int (nI (sm (fun r => M (0 + 4 * k + r) * M (120 + 4 * c + r)) i))), (4, .int (nI i))]) ?_ 0 (lv_sub hl [2, 3, 4, 1, 0] rfl) (by omega)
  intro i ls hl hi2 ih1
  have hi2_0 := hi2
  have hi2_0 : i ≤ 4 := hi2_0
  have hl : lv_has ls 5 [(0, .ref z0), (1, .int (nI c)), (2, .int (nI k)), (3, .int (nI (sm (fun r => M (0 + 4 * k + r) * M (120 + 4 * c + r)) i))), (4, .int (nI i))] := hl
  refine lv_iload hx hb dX6_worth_5 (lv_at hl 4 rfl) ?_
  refine nr_const (v := 4) hx hb dX6_worth_7 rfl ?_
  refine br_ige (tgt := 48) hx hb dX6_worth_8 (by decide) (by omega) (by decide) (fun h3 => ?_) (fun h3 => ?_)
  · skip
    refine lv_iload_n hx hb dX6_worth_48 rfl (lv_at hl 3 rfl) ?_
    exact rret hx hb hr hlk (by have e : i = 4 := (by omega); subst e; rfl) dX6_worth_49
  · skip
    refine lv_iload_n hx hb dX6_worth_11 rfl (lv_at hl 3 rfl) ?_
    refine lv_aload_n hx hb dX6_worth_12 rfl (lv_at hl 0 rfl) ?_
    refine va_get (D := G.1) (ci := 6) (v := .ref z1) (C := RX6) (T := TX6) (N := 9) hx hb hts hF6 hown hK hP 0 rfl rfl 0 (by decide) (hts (.fieldLink RX6 7 "CousinSharesModel" "s" "[I") (List.mem_of_getElem? (i := 1) rfl)) (fun _ h9 => h9) hf0 dX6_worth_13 ?_
    refine nr_const (v := 0) hx hb dX6_worth_16 rfl ?_
    refine nr_const (v := 4) hx hb dX6_worth_17 rfl ?_
    refine lv_iload_n hx hb dX6_worth_18 rfl (lv_at hl 2 rfl) ?_
    refine nr_mul hx hb dX6_worth_19 ?_
    refine nr_add hx hb dX6_worth_20 ?_
    refine lv_iload hx hb dX6_worth_21 (lv_at hl 4 rfl) ?_
    refine nr_add hx hb dX6_worth_23 ?_
    refine nr_ald hx hb hK hP 1 rfl (by omega) (by decide) dX6_worth_24 ?_
    refine lv_aload_n hx hb dX6_worth_25 rfl (lv_at hl 0 rfl) ?_
    refine va_get (D := G.1) (ci := 6) (v := .ref z1) (C := RX6) (T := TX6) (N := 9) hx hb hts hF6 hown hK hP 0 rfl rfl 0 (by decide) (hts (.fieldLink RX6 7 "CousinSharesModel" "s" "[I") (List.mem_of_getElem? (i := 1) rfl)) (fun _ h9 => h9) hf0 dX6_worth_26 ?_
    refine nr_bi (v := 120) hx hb dX6_worth_29 (by decide +kernel) ?_
    refine nr_const (v := 4) hx hb dX6_worth_31 rfl ?_
    refine lv_iload_n hx hb dX6_worth_32 rfl (lv_at hl 1 rfl) ?_
    refine nr_mul hx hb dX6_worth_33 ?_
    refine nr_add hx hb dX6_worth_34 ?_
    refine lv_iload hx hb dX6_worth_35 (lv_at hl 4 rfl) ?_
    refine nr_add hx hb dX6_worth_37 ?_
    refine nr_ald hx hb hK hP 1 rfl (by omega) (by decide) dX6_worth_38 ?_
    refine nr_mul hx hb dX6_worth_39 ?_
    refine nr_add hx hb dX6_worth_40 ?_
    refine lv_istore_n (lv' := [(3, .int (nI ((sm (fun r => M (0 + 4 * k + r) * M (120 + 4 * c + r)) i) + ((M ((0 + (4 * k)) + i)) * (M ((120 + (4 * c)) + i)))))), (0, .ref z0), (1, .int (nI c)), (2, .int (nI k)), (4, .int (nI i))]) hx hb dX6_worth_41 rfl hl (by decide) rfl (fun ls hl => ?_)
    refine nr_inc (d := 1) (v := i + 1) (lv' := [(4, .int (nI (i + 1))), (3, .int (nI ((sm (fun r => M (0 + 4 * k + r) * M (120 + 4 * c + r)) i) + ((M ((0 + (4 * k)) + i)) * (M ((120 + (4 * c)) + i)))))), (0, .ref z0), (1, .int (nI c)), (2, .int (nI k))]) hx hb dX6_worth_42 hl (k := 4) rfl rfl (by decide) rfl (fun ls hl => ?_)
    refine lv_goto (tgt := 5) hx hb dX6_worth_45 (by decide) ?_
    exact ih1 (i + 1) ls (lv_sub hl [2, 3, 4, 1, 0] rfl) (by omega) (by omega))

set_option maxHeartbeats 4000000 in
set_option maxRecDepth 100000 in
theorem c_X6_worthFrom (l : Launch) (G : gG) (z0 : Nat) (z1 : Nat) (fs : List Value) (M : Nat → Nat) (c : Nat) (a : Nat) (hf0 : fs[0]? = some (.ref z1)) (hc : c < 7) (ha : a ≤ 24) : Met l yX6_worthFrom wsX6_worthFrom ({ frames := 1, cells := 0, slots := 0, locals := 24 } : Room) (RD G [(z0, .inr (6, fs)), (z1, .inl (G.2 0, 404, .inl (nA M)))] [.ref z0, .int (nI c), .int (nI a)]) (QcRead (nI (wf M c a))) 0 0 noF := rdM (C := RX6) rfl (by decide) rfl (Nat.le_of_ble_eq_true rfl) (fun pX eX sX mX bX meX cX ls hx hb hr hts hown hlk hml hP hK hl => by
  have hl : lv_has ls 5 [(0, .ref z0), (1, .int (nI c)), (2, .int (nI a))] := hl
  refine nr_const (v := 0) hx hb dX6_worthFrom_0 rfl ?_
  refine lv_istore_n (lv' := [(3, .int (nI 0)), (0, .ref z0), (1, .int (nI c)), (2, .int (nI a))]) hx hb dX6_worthFrom_1 rfl hl (by decide) rfl (fun ls hl => ?_)
  refine lv_iload_n hx hb dX6_worthFrom_2 rfl (lv_at hl 3 rfl) ?_
  refine lv_istore (lv' := [(4, .int (nI a)), (3, .int (nI 0)), (0, .ref z0), (1, .int (nI c)), (2, .int (nI a))]) hx hb dX6_worthFrom_3 hl (by decide) rfl (fun ls hl => ?_)
  refine loop_r (T := Nat) (nL := 5) (fun i => i ≤ 24 - a) (fun i => 24 - a - i) (fun i => [(0, .ref z0), (1, .int (nI c)), (2, .int (nI a)), (3, .int (nI (sr (wr M c) a i))), (4, .int (nI (a + i)))]) ?_ 0 (lv_sub hl [2, 3, 4, 1, 0] rfl) (by omega)
  intro i ls hl hi2 ih1
  have hi2_0 := hi2
  have hi2_0 : i ≤ 24 - a := hi2_0
  have hl : lv_has ls 5 [(0, .ref z0), (1, .int (nI c)), (2, .int (nI a)), (3, .int (nI (sr (wr M c) a i))), (4, .int (nI (a + i)))] := hl
  refine lv_iload hx hb dX6_worthFrom_5 (lv_at hl 4 rfl) ?_
  refine nr_bi (v := 24) hx hb dX6_worthFrom_7 (by decide +kernel) ?_
  refine br_ige (tgt := 28) hx hb dX6_worthFrom_9 (by decide) (by omega) (by decide) (fun h3 => ?_) (fun h3 => ?_)
  · skip
    refine lv_iload_n hx hb dX6_worthFrom_28 rfl (lv_at hl 3 rfl) ?_
    exact rret hx hb hr hlk (by have e : i = 24 - a := (by omega); subst e; rfl) dX6_worthFrom_29
  · skip
    refine lv_iload_n hx hb dX6_worthFrom_12 rfl (lv_at hl 3 rfl) ?_
    refine lv_aload_n hx hb dX6_worthFrom_13 rfl (lv_at hl 0 rfl) ?_
    refine lv_iload_n hx hb dX6_worthFrom_14 rfl (lv_at hl 1 rfl) ?_
    refine lv_iload hx hb dX6_worthFrom_15 (lv_at hl 4 rfl) ?_
    refine rcV (As := [.int (nI c), .int (nI (a + i))]) (wl := [(z0, .inr (6, fs)), (z1, .inl (G.2 0, 404, .inl (nA M)))]) ⟨hx, hb, hml, hown, hts⟩ (c_X6_worth l G z0 z1 fs M c (a + i) hf0 (by omega) (by omega)) (cwV 2 hts gX6_worthFrom_X6_worth rfl rfl rfl (by decide +kernel) ⟨Nat.le_of_ble_eq_true rfl, Nat.le_of_ble_eq_true rfl⟩) hK hP 6 0 rfl rfl rfl hl.1 rfl (Nat.le_of_ble_eq_true rfl) dX6_worthFrom_17 ⟨Nat.zero_le _, Nat.zero_le _⟩ ?_
    refine nr_add hx hb dX6_worthFrom_20 ?_
    refine lv_istore_n (lv' := [(3, .int (nI ((sr (wr M c) a i) + (wr M c (a + i))))), (0, .ref z0), (1, .int (nI c)), (2, .int (nI a)), (4, .int (nI (a + i)))]) hx hb dX6_worthFrom_21 rfl hl (by decide) rfl (fun ls hl => ?_)
    refine nr_inc (d := 1) (v := (a + i) + 1) (lv' := [(4, .int (nI ((a + i) + 1))), (3, .int (nI ((sr (wr M c) a i) + (wr M c (a + i))))), (0, .ref z0), (1, .int (nI c)), (2, .int (nI a))]) hx hb dX6_worthFrom_22 hl (k := 4) rfl rfl (by decide) rfl (fun ls hl => ?_)
    refine lv_goto (tgt := 5) hx hb dX6_worthFrom_25 (by decide) ?_
    exact ih1 (i + 1) ls (lv_sub hl [2, 3, 4, 1, 0] rfl) (by omega) (by omega))

set_option maxHeartbeats 4000000 in
set_option maxRecDepth 100000 in
theorem c_X6_share (l : Launch) (G : gG) (z0 : Nat) (z1 : Nat) (fs : List Value) (M : Nat → Nat) (p : Nat) (c : Nat) (d : Nat) (hf0 : fs[0]? = some (.ref z1)) (hp : p ≤ 202) (hc : c < 7) (hd : d < 8) (hO : ∀ k, k < 24 → ow M p k < 8) : Met l yX6_share wsX6_share ({ frames := 1, cells := 0, slots := 0, locals := 24 } : Room) (RD G [(z0, .inr (6, fs)), (z1, .inl (G.2 0, 404, .inl (nA M)))] [.ref z0, .int (nI p), .int (nI c), .int (nI d)]) (QcRead (nI (sh M (ow M p) c d))) 0 0 noF := rdM (C := RX6) rfl (by decide) rfl (Nat.le_of_ble_eq_true rfl) (fun pX eX sX mX bX meX cX ls hx hb hr hts hown hlk hml hP hK hl => by
  have hl : lv_has ls 6 [(0, .ref z0), (1, .int (nI p)), (2, .int (nI c)), (3, .int (nI d))] := hl
  have hF6 : ∀ w ∈ wsX60, w ∈ wsX6_share := fun _ h => (List.mem_cons_of_mem _ (List.mem_append_right _ h))
  refine nr_const (v := 0) hx hb dX6_share_0 rfl ?_
  refine lv_istore (lv' := [(4, .int (nI 0)), (0, .ref z0), (1, .int (nI p)), (2, .int (nI c)), (3, .int (nI d))]) hx hb dX6_share_1 hl (by decide) rfl (fun ls hl => ?_)
  refine nr_const (v := 0) hx hb dX6_share_3 rfl ?_
  refine lv_istore (lv' := [(5, .int (nI 0)), (4, .int (nI 0)), (0, .ref z0), (1, .int (nI p)), (2, .int (nI c)), (3, .int (nI d))]) hx hb dX6_share_4 hl (by decide) rfl (fun ls hl => ?_)
  refine loop_r (T := Nat) (nL := 6) (fun i => i ≤ 24) (fun i => 24 - i) (fun i => [(0, .ref z0), (1, .int (nI p)), (2, .int (nI c)), (3, .int (nI d)), (4, .int (nI (sm (fun k => if ow M p k = d then wr M c k else 0) i))), (5, .int (nI i))]) ?_ 0 (lv_sub hl [2, 3, 4, 5, 1, 0] rfl) (by omega)
  intro i ls hl hi2 ih1
  have hi2_0 := hi2
  have hi2_0 : i ≤ 24 := hi2_0
  have hl : lv_has ls 6 [(0, .ref z0), (1, .int (nI p)), (2, .int (nI c)), (3, .int (nI d)), (4, .int (nI (sm (fun k => if ow M p k = d then wr M c k else 0) i))), (5, .int (nI i))] := hl
  refine lv_iload hx hb dX6_share_6 (lv_at hl 5 rfl) ?_
  refine nr_bi (v := 24) hx hb dX6_share_8 (by decide +kernel) ?_
  refine br_ige (tgt := 51) hx hb dX6_share_10 (by decide) (by omega) (by decide) (fun h3 => ?_) (fun h3 => ?_)
  · skip
    refine lv_iload hx hb dX6_share_51 (lv_at hl 4 rfl) ?_
    exact rret hx hb hr hlk (by have e : i = 24 := (by omega); subst e; rfl) dX6_share_53
  · skip
    have hb1 : M (p + 96 + i) < 8 := hO i (by omega)
    refine lv_iload hx hb dX6_share_13 (lv_at hl 4 rfl) ?_
    refine lv_aload_n hx hb dX6_share_15 rfl (lv_at hl 0 rfl) ?_
    refine va_get (D := G.1) (ci := 6) (v := .ref z1) (C := RX6) (T := TX6) (N := 9) hx hb hts hF6 hown hK hP 0 rfl rfl 0 (by decide) (hts (.fieldLink RX6 7 "CousinSharesModel" "s" "[I") (List.mem_of_getElem? (i := 1) rfl)) (fun _ h9 => h9) hf0 dX6_share_16 ?_
    refine lv_iload_n hx hb dX6_share_19 rfl (lv_at hl 1 rfl) ?_
    refine nr_bi (v := 96) hx hb dX6_share_20 (by decide +kernel) ?_
    refine nr_add hx hb dX6_share_22 ?_
    refine lv_iload hx hb dX6_share_23 (lv_at hl 5 rfl) ?_
    refine nr_add hx hb dX6_share_25 ?_
    refine nr_ald hx hb hK hP 1 rfl (by omega) (by decide) dX6_share_26 ?_
    refine lv_iload_n hx hb dX6_share_27 rfl (lv_at hl 3 rfl) ?_
    refine join_v (T := Nat) (J := 42) (nL := 6) (fun v => [(0, .ref z0), (1, .int (nI p)), (2, .int (nI c)), (3, .int (nI d)), (4, .int (nI (sm (fun k => if ow M p k = d then wr M c k else 0) i))), (5, .int (nI i))]) (fun v => [.int (nI v), .int (nI (sm (fun k => if ow M p k = d then wr M c k else 0) i))]) (fun v => v = (if (M ((p + 96) + i)) = d then (wr M c i) else 0)) ?_ (fun jj4 => ?_)
    · intro v ls hl hv5
      subst hv5
      refine nr_add hx hb dX6_share_42 ?_
      refine lv_istore (lv' := [(4, .int (nI ((sm (fun k => if ow M p k = d then wr M c k else 0) i) + (if (M ((p + 96) + i)) = d then (wr M c i) else 0)))), (0, .ref z0), (1, .int (nI p)), (2, .int (nI c)), (3, .int (nI d)), (5, .int (nI i))]) hx hb dX6_share_43 hl (by decide) rfl (fun ls hl => ?_)
      refine nr_inc (d := 1) (v := i + 1) (lv' := [(5, .int (nI (i + 1))), (4, .int (nI ((sm (fun k => if ow M p k = d then wr M c k else 0) i) + (if (M ((p + 96) + i)) = d then (wr M c i) else 0)))), (0, .ref z0), (1, .int (nI p)), (2, .int (nI c)), (3, .int (nI d))]) hx hb dX6_share_45 hl (k := 5) rfl rfl (by decide) rfl (fun ls hl => ?_)
      refine lv_goto (tgt := 6) hx hb dX6_share_48 (by decide) ?_
      exact ih1 (i + 1) ls (lv_sub hl [2, 3, 4, 5, 1, 0] rfl) (by omega) (by omega)
    · skip
      refine br_ine (tgt := 41) hx hb dX6_share_28 (by decide) (by omega) (by omega) (fun h6 => ?_) (fun h6 => ?_)
      · skip
        refine nr_const (v := 0) hx hb dX6_share_41 rfl ?_
        exact jj4 0 ls (lv_sub hl [0, 1, 2, 3, 4, 5] rfl) (by simp only [if_neg h6])
      · skip
        refine lv_aload_n hx hb dX6_share_31 rfl (lv_at hl 0 rfl) ?_
        refine lv_iload_n hx hb dX6_share_32 rfl (lv_at hl 2 rfl) ?_
        refine lv_iload hx hb dX6_share_33 (lv_at hl 5 rfl) ?_
        refine rcV (As := [.int (nI c), .int (nI i)]) (wl := [(z0, .inr (6, fs)), (z1, .inl (G.2 0, 404, .inl (nA M)))]) ⟨hx, hb, hml, hown, hts⟩ (c_X6_worth l G z0 z1 fs M c i hf0 (by omega) (by omega)) (cwV 2 hts gX6_share_X6_worth rfl rfl rfl (by decide +kernel) ⟨Nat.le_of_ble_eq_true rfl, Nat.le_of_ble_eq_true rfl⟩) hK hP 6 0 rfl rfl rfl hl.1 rfl (Nat.le_of_ble_eq_true rfl) dX6_share_35 ⟨Nat.zero_le _, Nat.zero_le _⟩ ?_
        refine lv_goto (tgt := 42) hx hb dX6_share_38 (by decide) ?_
        exact jj4 (wr M c i) ls (lv_sub hl [0, 1, 2, 3, 4, 5] rfl) (by simp only [if_pos h6]))

set_option maxHeartbeats 4000000 in
set_option maxRecDepth 100000 in
theorem c_X6_grudgeOf (l : Launch) (G : gG) (z0 : Nat) (z1 : Nat) (fs : List Value) (M : Nat → Nat) (c : Nat) (d : Nat) (hf0 : fs[0]? = some (.ref z1)) (hc : c < 7) (hd : d < 7) : Met l yX6_grudgeOf wsX6_grudgeOf ({ frames := 0, cells := 0, slots := 0, locals := 0 } : Room) (RD G [(z0, .inr (6, fs)), (z1, .inl (G.2 0, 404, .inl (nA M)))] [.ref z0, .int (nI c), .int (nI d)]) (QcRead (nI (gr M c d))) 0 0 noF := rdM (C := RX6) rfl (by decide) rfl (Nat.le_of_ble_eq_true rfl) (fun pX eX sX mX bX meX cX ls hx hb hr hts hown hlk hml hP hK hl => by
  have hl : lv_has ls 3 [(0, .ref z0), (1, .int (nI c)), (2, .int (nI d))] := hl
  have hF6 : ∀ w ∈ wsX60, w ∈ wsX6_grudgeOf := fun _ h => (List.mem_cons_of_mem _ (List.mem_append_right _ h))
  refine lv_aload_n hx hb dX6_grudgeOf_0 rfl (lv_at hl 0 rfl) ?_
  refine va_get (D := G.1) (ci := 6) (v := .ref z1) (C := RX6) (T := TX6) (N := 9) hx hb hts hF6 hown hK hP 0 rfl rfl 0 (by decide) (hts (.fieldLink RX6 7 "CousinSharesModel" "s" "[I") (List.mem_of_getElem? (i := 1) rfl)) (fun _ h9 => h9) hf0 dX6_grudgeOf_1 ?_
  refine nr_si (v := 148) hx hb dX6_grudgeOf_4 (by decide +kernel) ?_
  refine nr_bi (v := 7) hx hb dX6_grudgeOf_7 (by decide +kernel) ?_
  refine lv_iload_n hx hb dX6_grudgeOf_9 rfl (lv_at hl 1 rfl) ?_
  refine nr_mul hx hb dX6_grudgeOf_10 ?_
  refine nr_add hx hb dX6_grudgeOf_11 ?_
  refine lv_iload_n hx hb dX6_grudgeOf_12 rfl (lv_at hl 2 rfl) ?_
  refine nr_add hx hb dX6_grudgeOf_13 ?_
  refine nr_ald hx hb hK hP 1 rfl (by omega) (by decide) dX6_grudgeOf_14 ?_
  exact rret hx hb hr hlk (rfl) dX6_grudgeOf_15)

set_option maxHeartbeats 4000000 in
set_option maxRecDepth 100000 in
theorem c_X6_seems (l : Launch) (G : gG) (z0 : Nat) (z1 : Nat) (fs : List Value) (M : Nat → Nat) (p : Nat) (c : Nat) (d : Nat) (hf0 : fs[0]? = some (.ref z1)) (h0 : ok M) (hp : p ≤ 202) (hc : c < 7) (hd : d < 7) (hO : ∀ k, k < 24 → ow M p k < 8) : Met l yX6_seems wsX6_seems ({ frames := 2, cells := 0, slots := 0, locals := 49 } : Room) (RD G [(z0, .inr (6, fs)), (z1, .inl (G.2 0, 404, .inl (nA M)))] [.ref z0, .int (nI p), .int (nI c), .int (nI d)]) (QcRead (nI (se M (ow M p) c d))) 0 0 noF := rdM (C := RX6) rfl (by decide) rfl (Nat.le_of_ble_eq_true rfl) (fun pX eX sX mX bX meX cX ls hx hb hr hts hown hlk hml hP hK hl => by
  have hl : lv_has ls 4 [(0, .ref z0), (1, .int (nI p)), (2, .int (nI c)), (3, .int (nI d))] := hl
  have hx1 := sx_le (O := ow M p) h0 hc hd
  refine lv_aload_n hx hb dX6_seems_0 rfl (lv_at hl 0 rfl) ?_
  refine lv_iload_n hx hb dX6_seems_1 rfl (lv_at hl 1 rfl) ?_
  refine lv_iload_n hx hb dX6_seems_2 rfl (lv_at hl 2 rfl) ?_
  refine lv_iload_n hx hb dX6_seems_3 rfl (lv_at hl 3 rfl) ?_
  refine rcV (As := [.int (nI p), .int (nI c), .int (nI d)]) (wl := [(z0, .inr (6, fs)), (z1, .inl (G.2 0, 404, .inl (nA M)))]) ⟨hx, hb, hml, hown, hts⟩ (c_X6_share l G z0 z1 fs M p c d hf0 (by omega) (by omega) (by omega) hO) (cwV 3 hts gX6_seems_X6_share rfl rfl rfl (by decide +kernel) ⟨Nat.le_of_ble_eq_true rfl, Nat.le_of_ble_eq_true rfl⟩) hK hP 6 0 rfl rfl rfl hl.1 rfl (Nat.le_of_ble_eq_true rfl) dX6_seems_4 ⟨Nat.zero_le _, Nat.zero_le _⟩ ?_
  refine nr_bi (v := 10) hx hb dX6_seems_7 (by decide +kernel) ?_
  refine lv_aload_n hx hb dX6_seems_9 rfl (lv_at hl 0 rfl) ?_
  refine lv_iload_n hx hb dX6_seems_10 rfl (lv_at hl 2 rfl) ?_
  refine lv_iload_n hx hb dX6_seems_11 rfl (lv_at hl 3 rfl) ?_
  refine rcV (As := [.int (nI c), .int (nI d)]) (wl := [(z0, .inr (6, fs)), (z1, .inl (G.2 0, 404, .inl (nA M)))]) ⟨hx, hb, hml, hown, hts⟩ (c_X6_grudgeOf l G z0 z1 fs M c d hf0 (by omega) (by omega)) (cwV 2 hts gX6_seems_X6_grudgeOf rfl rfl rfl (by decide +kernel) ⟨Nat.le_of_ble_eq_true rfl, Nat.le_of_ble_eq_true rfl⟩) hK hP 6 0 rfl rfl rfl hl.1 rfl (Nat.le_of_ble_eq_true rfl) dX6_seems_12 ⟨Nat.zero_le _, Nat.zero_le _⟩ ?_
  refine nr_add hx hb dX6_seems_15 ?_
  refine nr_mul hx hb dX6_seems_16 ?_
  refine nr_bi (v := 10) hx hb dX6_seems_17 (by decide +kernel) ?_
  refine nr_div hx hb dX6_seems_19 (by omega) (by decide) (by decide) ?_
  exact rret hx hb hr hlk (rfl) dX6_seems_20)

set_option maxHeartbeats 4000000 in
set_option maxRecDepth 100000 in
theorem c_X6_envy (l : Launch) (G : gG) (z0 : Nat) (z1 : Nat) (fs : List Value) (M : Nat → Nat) (p : Nat) (c : Nat) (d : Nat) (hf0 : fs[0]? = some (.ref z1)) (h0 : ok M) (hp : p ≤ 202) (hc : c < 7) (hd : d < 7) (hO : ∀ k, k < 24 → ow M p k < 8) : Met l yX6_envy wsX6_envy ({ frames := 3, cells := 0, slots := 0, locals := 72 } : Room) (RD G [(z0, .inr (6, fs)), (z1, .inl (G.2 0, 404, .inl (nA M)))] [.ref z0, .int (nI p), .int (nI c), .int (nI d)]) (QcRead (nI (ev M (ow M p) c d))) 0 0 noF := rdM (C := RX6) rfl (by decide) rfl (Nat.le_of_ble_eq_true rfl) (fun pX eX sX mX bX meX cX ls hx hb hr hts hown hlk hml hP hK hl => by
  have hl : lv_has ls 5 [(0, .ref z0), (1, .int (nI p)), (2, .int (nI c)), (3, .int (nI d))] := hl
  refine lv_aload_n hx hb dX6_envy_0 rfl (lv_at hl 0 rfl) ?_
  refine lv_iload_n hx hb dX6_envy_1 rfl (lv_at hl 1 rfl) ?_
  refine lv_iload_n hx hb dX6_envy_2 rfl (lv_at hl 2 rfl) ?_
  refine lv_iload_n hx hb dX6_envy_3 rfl (lv_at hl 3 rfl) ?_
  refine rcV (As := [.int (nI p), .int (nI c), .int (nI d)]) (wl := [(z0, .inr (6, fs)), (z1, .inl (G.2 0, 404, .inl (nA M)))]) ⟨hx, hb, hml, hown, hts⟩ (c_X6_seems l G z0 z1 fs M p c d hf0 h0 (by omega) (by omega) (by omega) hO) (cwV 3 hts gX6_envy_X6_seems rfl rfl rfl (by decide +kernel) ⟨Nat.le_of_ble_eq_true rfl, Nat.le_of_ble_eq_true rfl⟩) hK hP 6 0 rfl rfl rfl hl.1 rfl (Nat.le_of_ble_eq_true rfl) dX6_envy_4 ⟨Nat.zero_le _, Nat.zero_le _⟩ ?_
  refine lv_aload_n hx hb dX6_envy_7 rfl (lv_at hl 0 rfl) ?_
  refine lv_iload_n hx hb dX6_envy_8 rfl (lv_at hl 1 rfl) ?_
  refine lv_iload_n hx hb dX6_envy_9 rfl (lv_at hl 2 rfl) ?_
  refine lv_iload_n hx hb dX6_envy_10 rfl (lv_at hl 2 rfl) ?_
  refine rcV (As := [.int (nI p), .int (nI c), .int (nI c)]) (wl := [(z0, .inr (6, fs)), (z1, .inl (G.2 0, 404, .inl (nA M)))]) ⟨hx, hb, hml, hown, hts⟩ (c_X6_share l G z0 z1 fs M p c c hf0 (by omega) (by omega) (by omega) hO) (cwV 3 hts gX6_envy_X6_share rfl rfl rfl (by decide +kernel) ⟨Nat.le_of_ble_eq_true rfl, Nat.le_of_ble_eq_true rfl⟩) hK hP 6 0 rfl rfl rfl hl.1 rfl (Nat.le_of_ble_eq_true rfl) dX6_envy_11 ⟨Nat.zero_le _, Nat.zero_le _⟩ ?_
  refine lv_isub hx hb dX6_envy_14 ?_
  refine lv_istore (lv' := [(4, .int ((nI (se M (ow M p) c d)) - (nI (sh M (ow M p) c c)))), (0, .ref z0), (1, .int (nI p)), (2, .int (nI c)), (3, .int (nI d))]) hx hb dX6_envy_15 hl (by decide) rfl (fun ls hl => ?_)
  refine lv_iload_n hx hb dX6_envy_17 rfl (lv_at hl 3 rfl) ?_
  refine lv_iload_n hx hb dX6_envy_18 rfl (lv_at hl 4 rfl) ?_
  refine br_ieq (tgt := 27) hx hb dX6_envy_19 (by decide) (by omega) (by omega) (fun h1 => ?_) (fun h1 => ?_)
  · skip
    refine nr_const (v := 0) hx hb dX6_envy_27 rfl ?_
    refine lv_goto (tgt := 33) hx hb dX6_envy_28 (by decide) ?_
    exact rret hx hb hr hlk (by first | exact ev_e (by assumption) | exact ev_n h0 hc hd (by assumption) | exact ev_p h0 hc hd (by assumption) (by assumption)) dX6_envy_33
  · skip
    refine lv_iload hx hb dX6_envy_22 (lv_at hl 0 rfl) ?_
    refine lv_if_ge (tgt := 31) hx hb dX6_envy_24 (by decide) (fun h2 => ?_) (fun h2 => ?_)
    · skip
      refine lv_iload hx hb dX6_envy_31 (lv_at hl 0 rfl) ?_
      exact rret hx hb hr hlk (by first | exact ev_e (by assumption) | exact ev_n h0 hc hd (by assumption) | exact ev_p h0 hc hd (by assumption) (by assumption)) dX6_envy_33
    · skip
      refine nr_const (v := 0) hx hb dX6_envy_27 rfl ?_
      refine lv_goto (tgt := 33) hx hb dX6_envy_28 (by decide) ?_
      exact rret hx hb hr hlk (by first | exact ev_e (by assumption) | exact ev_n h0 hc hd (by assumption) | exact ev_p h0 hc hd (by assumption) (by assumption)) dX6_envy_33)

set_option maxHeartbeats 4000000 in
set_option maxRecDepth 100000 in
theorem c_X6_envies (l : Launch) (G : gG) (z0 : Nat) (z1 : Nat) (fs : List Value) (M : Nat → Nat) (p : Nat) (A : Nat) (B : Nat) (hf0 : fs[0]? = some (.ref z1)) (h0 : ok M) (hp : p ≤ 202) (hA : A < 128) (hB : B < 128) (hO : ∀ k, k < 24 → ow M p k < 8) : Met l yX6_envies wsX6_envies ({ frames := 4, cells := 0, slots := 0, locals := 96 } : Room) (RD G [(z0, .inr (6, fs)), (z1, .inl (G.2 0, 404, .inl (nA M)))] [.ref z0, .int (nI p), .int (nI A), .int (nI B)]) (QcRead (nI (es M (ow M p) A B))) 0 0 noF := rdM (C := RX6) rfl (by decide) rfl (Nat.le_of_ble_eq_true rfl) (fun pX eX sX mX bX meX cX ls hx hb hr hts hown hlk hml hP hK hl => by
  have hl : lv_has ls 7 [(0, .ref z0), (1, .int (nI p)), (2, .int (nI A)), (3, .int (nI B))] := hl
  refine nr_const (v := 0) hx hb dX6_envies_0 rfl ?_
  refine lv_istore (lv' := [(4, .int (nI 0)), (0, .ref z0), (1, .int (nI p)), (2, .int (nI A)), (3, .int (nI B))]) hx hb dX6_envies_1 hl (by decide) rfl (fun ls hl => ?_)
  refine nr_const (v := 0) hx hb dX6_envies_3 rfl ?_
  refine lv_istore (lv' := [(5, .int (nI 0)), (4, .int (nI 0)), (0, .ref z0), (1, .int (nI p)), (2, .int (nI A)), (3, .int (nI B))]) hx hb dX6_envies_4 hl (by decide) rfl (fun ls hl => ?_)
  refine loop_r (T := Nat) (nL := 7) (fun i => i ≤ 49) (fun i => 49 - i) (fun i => [(0, .ref z0), (1, .int (nI p)), (2, .int (nI A)), (3, .int (nI B)), (4, .int (nI (sm (fun k => if bt A (k / 7) = 1 ∧ bt B (k % 7) = 1 then ev M (ow M p) (k / 7) (k % 7) else 0) i))), (5, .int (nI i))]) ?_ 0 (lv_sub hl [2, 3, 4, 5, 1, 0] rfl) (by omega)
  intro i ls hl hi2 ih1
  have hi2_0 := hi2
  have hi2_0 : i ≤ 49 := hi2_0
  have hl : lv_has ls 7 [(0, .ref z0), (1, .int (nI p)), (2, .int (nI A)), (3, .int (nI B)), (4, .int (nI (sm (fun k => if bt A (k / 7) = 1 ∧ bt B (k % 7) = 1 then ev M (ow M p) (k / 7) (k % 7) else 0) i))), (5, .int (nI i))] := hl
  refine lv_iload hx hb dX6_envies_6 (lv_at hl 5 rfl) ?_
  refine nr_bi (v := 49) hx hb dX6_envies_8 (by decide +kernel) ?_
  refine br_ige (tgt := 81) hx hb dX6_envies_10 (by decide) (by omega) (by decide) (fun h3 => ?_) (fun h3 => ?_)
  · skip
    refine lv_iload hx hb dX6_envies_81 (lv_at hl 4 rfl) ?_
    exact rret hx hb hr hlk (by have e : i = 49 := (by omega); subst e; rfl) dX6_envies_83
  · skip
    have hb1 := bt_lt A (i / 7)
    have hb2 := bt_lt B (i % 7)
    refine lv_iload_n hx hb dX6_envies_13 rfl (lv_at hl 2 rfl) ?_
    refine lv_iload hx hb dX6_envies_14 (lv_at hl 5 rfl) ?_
    refine nr_bi (v := 7) hx hb dX6_envies_16 (by decide +kernel) ?_
    refine nr_div hx hb dX6_envies_18 (by omega) (by decide) (by decide) ?_
    refine lv_ishr hx hb dX6_envies_19 ?_
    refine nr_const (v := 1) hx hb dX6_envies_20 rfl ?_
    refine lv_iand hx hb dX6_envies_21 ?_
    refine nr_top (bt_shr (by omega) (by omega)) ?_
    refine nr_const (v := 1) hx hb dX6_envies_22 rfl ?_
    refine join_v (T := Nat) (J := 44) (nL := 7) (fun v => [(0, .ref z0), (1, .int (nI p)), (2, .int (nI A)), (3, .int (nI B)), (4, .int (nI (sm (fun k => if bt A (k / 7) = 1 ∧ bt B (k % 7) = 1 then ev M (ow M p) (k / 7) (k % 7) else 0) i))), (5, .int (nI i))]) (fun v => [.int (nI v)]) (fun v => v = bb (((bt A (i / 7)) = 1) ∧ ((bt B (i % 7)) = 1))) ?_ (fun jj4 => ?_)
    · intro v ls hl hv5
      subst hv5
      refine lv_istore (lv' := [(6, .int (nI (bb (((bt A (i / 7)) = 1) ∧ ((bt B (i % 7)) = 1))))), (0, .ref z0), (1, .int (nI p)), (2, .int (nI A)), (3, .int (nI B)), (4, .int (nI (sm (fun k => if bt A (k / 7) = 1 ∧ bt B (k % 7) = 1 then ev M (ow M p) (k / 7) (k % 7) else 0) i))), (5, .int (nI i))]) hx hb dX6_envies_44 hl (by decide) rfl (fun ls hl => ?_)
      refine lv_iload hx hb dX6_envies_46 (lv_at hl 5 rfl) ?_
      refine lv_iload hx hb dX6_envies_48 (lv_at hl 0 rfl) ?_
      refine join_v (T := Nat) (J := 72) (nL := 7) (fun v => [(6, .int (nI (bb (((bt A (i / 7)) = 1) ∧ ((bt B (i % 7)) = 1))))), (0, .ref z0), (1, .int (nI p)), (2, .int (nI A)), (3, .int (nI B)), (4, .int (nI (sm (fun k => if bt A (k / 7) = 1 ∧ bt B (k % 7) = 1 then ev M (ow M p) (k / 7) (k % 7) else 0) i))), (5, .int (nI i))]) (fun v => [.int (nI v), .int (nI (sm (fun k => if bt A (k / 7) = 1 ∧ bt B (k % 7) = 1 then ev M (ow M p) (k / 7) (k % 7) else 0) i))]) (fun v => v = (if ((bt A (i / 7)) = 1) ∧ ((bt B (i % 7)) = 1) then (ev M (ow M p) (i / 7) (i % 7)) else 0)) ?_ (fun jj6 => ?_)
      · intro v ls hl hv7
        subst hv7
        refine nr_add hx hb dX6_envies_72 ?_
        refine lv_istore (lv' := [(4, .int (nI ((sm (fun k => if bt A (k / 7) = 1 ∧ bt B (k % 7) = 1 then ev M (ow M p) (k / 7) (k % 7) else 0) i) + (if ((bt A (i / 7)) = 1) ∧ ((bt B (i % 7)) = 1) then (ev M (ow M p) (i / 7) (i % 7)) else 0)))), (6, .int (nI (bb (((bt A (i / 7)) = 1) ∧ ((bt B (i % 7)) = 1))))), (0, .ref z0), (1, .int (nI p)), (2, .int (nI A)), (3, .int (nI B)), (5, .int (nI i))]) hx hb dX6_envies_73 hl (by decide) rfl (fun ls hl => ?_)
        refine nr_inc (d := 1) (v := i + 1) (lv' := [(5, .int (nI (i + 1))), (4, .int (nI ((sm (fun k => if bt A (k / 7) = 1 ∧ bt B (k % 7) = 1 then ev M (ow M p) (k / 7) (k % 7) else 0) i) + (if ((bt A (i / 7)) = 1) ∧ ((bt B (i % 7)) = 1) then (ev M (ow M p) (i / 7) (i % 7)) else 0)))), (6, .int (nI (bb (((bt A (i / 7)) = 1) ∧ ((bt B (i % 7)) = 1))))), (0, .ref z0), (1, .int (nI p)), (2, .int (nI A)), (3, .int (nI B))]) hx hb dX6_envies_75 hl (k := 6) rfl rfl (by decide) rfl (fun ls hl => ?_)
        refine lv_goto (tgt := 6) hx hb dX6_envies_78 (by decide) ?_
        exact ih1 (i + 1) ls (lv_sub hl [3, 4, 5, 6, 1, 0] rfl) (by omega) (by omega)
      · skip
        refine br_eqb (tgt := 71) hx hb dX6_envies_50 (by decide) (fun h8 => ?_) (fun h8 => ?_)
        · skip
          refine nr_const (v := 0) hx hb dX6_envies_71 rfl ?_
          exact jj6 0 ls (lv_sub hl [0, 1, 2, 3, 4, 5, 6] rfl) (by simp only [if_neg h8])
        · skip
          refine lv_aload_n hx hb dX6_envies_53 rfl (lv_at hl 1 rfl) ?_
          refine lv_iload_n hx hb dX6_envies_54 rfl (lv_at hl 2 rfl) ?_
          refine lv_iload hx hb dX6_envies_55 (lv_at hl 6 rfl) ?_
          refine nr_bi (v := 7) hx hb dX6_envies_57 (by decide +kernel) ?_
          refine nr_div hx hb dX6_envies_59 (by omega) (by decide) (by decide) ?_
          refine lv_iload hx hb dX6_envies_60 (lv_at hl 6 rfl) ?_
          refine nr_bi (v := 7) hx hb dX6_envies_62 (by decide +kernel) ?_
          refine nr_rem hx hb dX6_envies_64 (by omega) (by decide) (by decide) ?_
          refine rcV (As := [.int (nI p), .int (nI (i / 7)), .int (nI (i % 7))]) (wl := [(z0, .inr (6, fs)), (z1, .inl (G.2 0, 404, .inl (nA M)))]) ⟨hx, hb, hml, hown, hts⟩ (c_X6_envy l G z0 z1 fs M p (i / 7) (i % 7) hf0 h0 (by omega) (by omega) (by omega) hO) (cwV 3 hts gX6_envies_X6_envy rfl rfl rfl (by decide +kernel) ⟨Nat.le_of_ble_eq_true rfl, Nat.le_of_ble_eq_true rfl⟩) hK hP 6 0 rfl rfl rfl hl.1 rfl (Nat.le_of_ble_eq_true rfl) dX6_envies_65 ⟨Nat.zero_le _, Nat.zero_le _⟩ ?_
          refine lv_goto (tgt := 72) hx hb dX6_envies_68 (by decide) ?_
          exact jj6 (ev M (ow M p) (i / 7) (i % 7)) ls (lv_sub hl [0, 1, 2, 3, 4, 5, 6] rfl) (by simp only [if_pos h8])
    · skip
      refine br_ine (tgt := 43) hx hb dX6_envies_23 (by decide) (by omega) (by decide) (fun h9 => ?_) (fun h9 => ?_)
      · skip
        refine nr_const (v := 0) hx hb dX6_envies_43 rfl ?_
        exact jj4 0 ls (lv_sub hl [0, 1, 2, 3, 4, 5] rfl) (bb_f (fun q => h9 q.1)).symm
      · skip
        refine lv_iload_n hx hb dX6_envies_26 rfl (lv_at hl 3 rfl) ?_
        refine lv_iload hx hb dX6_envies_27 (lv_at hl 5 rfl) ?_
        refine nr_bi (v := 7) hx hb dX6_envies_29 (by decide +kernel) ?_
        refine nr_rem hx hb dX6_envies_31 (by omega) (by decide) (by decide) ?_
        refine lv_ishr hx hb dX6_envies_32 ?_
        refine nr_const (v := 1) hx hb dX6_envies_33 rfl ?_
        refine lv_iand hx hb dX6_envies_34 ?_
        refine nr_top (bt_shr (by omega) (by omega)) ?_
        refine nr_const (v := 1) hx hb dX6_envies_35 rfl ?_
        refine br_ine (tgt := 43) hx hb dX6_envies_36 (by decide) (by omega) (by decide) (fun h10 => ?_) (fun h10 => ?_)
        · skip
          refine nr_const (v := 0) hx hb dX6_envies_43 rfl ?_
          exact jj4 0 ls (lv_sub hl [0, 1, 2, 3, 4, 5] rfl) (bb_f (fun q => h10 q.2)).symm
        · skip
          refine nr_const (v := 1) hx hb dX6_envies_39 rfl ?_
          refine lv_goto (tgt := 44) hx hb dX6_envies_40 (by decide) ?_
          exact jj4 1 ls (lv_sub hl [0, 1, 2, 3, 4, 5] rfl) (bb_t ⟨h9, h10⟩).symm)

set_option maxHeartbeats 4000000 in
set_option maxRecDepth 100000 in
theorem c_X6_allEnvies (l : Launch) (G : gG) (z0 : Nat) (z1 : Nat) (fs : List Value) (M : Nat → Nat) (p : Nat) (hf0 : fs[0]? = some (.ref z1)) (h0 : ok M) (hp : p ≤ 202) (hO : ∀ k, k < 24 → ow M p k < 8) : Met l yX6_allEnvies wsX6_allEnvies ({ frames := 5, cells := 0, slots := 0, locals := 122 } : Room) (RD G [(z0, .inr (6, fs)), (z1, .inl (G.2 0, 404, .inl (nA M)))] [.ref z0, .int (nI p)]) (QcRead (nI (es M (ow M p) 127 127))) 0 0 noF := rdM (C := RX6) rfl (by decide) rfl (Nat.le_of_ble_eq_true rfl) (fun pX eX sX mX bX meX cX ls hx hb hr hts hown hlk hml hP hK hl => by
  have hl : lv_has ls 2 [(0, .ref z0), (1, .int (nI p))] := hl
  refine lv_aload_n hx hb dX6_allEnvies_0 rfl (lv_at hl 0 rfl) ?_
  refine lv_iload_n hx hb dX6_allEnvies_1 rfl (lv_at hl 1 rfl) ?_
  refine nr_bi (v := 127) hx hb dX6_allEnvies_2 (by decide +kernel) ?_
  refine nr_bi (v := 127) hx hb dX6_allEnvies_4 (by decide +kernel) ?_
  refine rcV (As := [.int (nI p), .int (nI 127), .int (nI 127)]) (wl := [(z0, .inr (6, fs)), (z1, .inl (G.2 0, 404, .inl (nA M)))]) ⟨hx, hb, hml, hown, hts⟩ (c_X6_envies l G z0 z1 fs M p 127 127 hf0 (by omega) (by omega) (by omega) (by omega) (by omega)) (cwV 3 hts gX6_allEnvies_X6_envies rfl rfl rfl (by decide +kernel) ⟨Nat.le_of_ble_eq_true rfl, Nat.le_of_ble_eq_true rfl⟩) hK hP 6 0 rfl rfl rfl hl.1 rfl (Nat.le_of_ble_eq_true rfl) dX6_allEnvies_6 ⟨Nat.zero_le _, Nat.zero_le _⟩ ?_
  exact rret hx hb hr hlk (rfl) dX6_allEnvies_9)

set_option maxHeartbeats 4000000 in
set_option maxRecDepth 100000 in
theorem c_X6_grudges (l : Launch) (G : gG) (z0 : Nat) (z1 : Nat) (fs : List Value) (M : Nat → Nat) (c : Nat) (hf0 : fs[0]? = some (.ref z1)) (hc : c < 7) : Met l yX6_grudges wsX6_grudges ({ frames := 1, cells := 0, slots := 0, locals := 22 } : Room) (RD G [(z0, .inr (6, fs)), (z1, .inl (G.2 0, 404, .inl (nA M)))] [.ref z0, .int (nI c)]) (QcRead (nI (gs M c))) 0 0 noF := rdM (C := RX6) rfl (by decide) rfl (Nat.le_of_ble_eq_true rfl) (fun pX eX sX mX bX meX cX ls hx hb hr hts hown hlk hml hP hK hl => by
  have hl : lv_has ls 4 [(0, .ref z0), (1, .int (nI c))] := hl
  refine nr_const (v := 0) hx hb dX6_grudges_0 rfl ?_
  refine lv_istore_n (lv' := [(2, .int (nI 0)), (0, .ref z0), (1, .int (nI c))]) hx hb dX6_grudges_1 rfl hl (by decide) rfl (fun ls hl => ?_)
  refine nr_const (v := 0) hx hb dX6_grudges_2 rfl ?_
  refine lv_istore_n (lv' := [(3, .int (nI 0)), (2, .int (nI 0)), (0, .ref z0), (1, .int (nI c))]) hx hb dX6_grudges_3 rfl hl (by decide) rfl (fun ls hl => ?_)
  refine loop_r (T := Nat) (nL := 4) (fun i => i ≤ 7) (fun i => 7 - i) (fun i => [(0, .ref z0), (1, .int (nI c)), (2, .int (nI (sm (fun d => gr M c d) i))), (3, .int (nI i))]) ?_ 0 (lv_sub hl [2, 3, 1, 0] rfl) (by omega)
  intro i ls hl hi2 ih1
  have hi2_0 := hi2
  have hi2_0 : i ≤ 7 := hi2_0
  have hl : lv_has ls 4 [(0, .ref z0), (1, .int (nI c)), (2, .int (nI (sm (fun d => gr M c d) i))), (3, .int (nI i))] := hl
  refine lv_iload_n hx hb dX6_grudges_4 rfl (lv_at hl 3 rfl) ?_
  refine nr_bi (v := 7) hx hb dX6_grudges_5 (by decide +kernel) ?_
  refine br_ige (tgt := 25) hx hb dX6_grudges_7 (by decide) (by omega) (by decide) (fun h3 => ?_) (fun h3 => ?_)
  · skip
    refine lv_iload_n hx hb dX6_grudges_25 rfl (lv_at hl 2 rfl) ?_
    exact rret hx hb hr hlk (by have e : i = 7 := (by omega); subst e; rfl) dX6_grudges_26
  · skip
    refine lv_iload_n hx hb dX6_grudges_10 rfl (lv_at hl 2 rfl) ?_
    refine lv_aload_n hx hb dX6_grudges_11 rfl (lv_at hl 0 rfl) ?_
    refine lv_iload_n hx hb dX6_grudges_12 rfl (lv_at hl 1 rfl) ?_
    refine lv_iload_n hx hb dX6_grudges_13 rfl (lv_at hl 3 rfl) ?_
    refine rcV (As := [.int (nI c), .int (nI i)]) (wl := [(z0, .inr (6, fs)), (z1, .inl (G.2 0, 404, .inl (nA M)))]) ⟨hx, hb, hml, hown, hts⟩ (c_X6_grudgeOf l G z0 z1 fs M c i hf0 (by omega) (by omega)) (cwV 2 hts gX6_grudges_X6_grudgeOf rfl rfl rfl (by decide +kernel) ⟨Nat.le_of_ble_eq_true rfl, Nat.le_of_ble_eq_true rfl⟩) hK hP 6 0 rfl rfl rfl hl.1 rfl (Nat.le_of_ble_eq_true rfl) dX6_grudges_14 ⟨Nat.zero_le _, Nat.zero_le _⟩ ?_
    refine nr_add hx hb dX6_grudges_17 ?_
    refine lv_istore_n (lv' := [(2, .int (nI ((sm (fun d => gr M c d) i) + (gr M c i)))), (0, .ref z0), (1, .int (nI c)), (3, .int (nI i))]) hx hb dX6_grudges_18 rfl hl (by decide) rfl (fun ls hl => ?_)
    refine nr_inc (d := 1) (v := i + 1) (lv' := [(3, .int (nI (i + 1))), (2, .int (nI ((sm (fun d => gr M c d) i) + (gr M c i)))), (0, .ref z0), (1, .int (nI c))]) hx hb dX6_grudges_19 hl (k := 3) rfl rfl (by decide) rfl (fun ls hl => ?_)
    refine lv_goto (tgt := 4) hx hb dX6_grudges_22 (by decide) ?_
    exact ih1 (i + 1) ls (lv_sub hl [2, 3, 1, 0] rfl) (by omega) (by omega))

set_option maxHeartbeats 4000000 in
set_option maxRecDepth 100000 in
theorem c_X6_isAhead (l : Launch) (G : gG) (z0 : Nat) (z1 : Nat) (fs : List Value) (M : Nat → Nat) (c : Nat) (d : Nat) (hf0 : fs[0]? = some (.ref z1)) (h0 : ok M) (hc : c < 7) (hd : d < 7) : Met l yX6_isAhead wsX6_isAhead ({ frames := 2, cells := 0, slots := 0, locals := 45 } : Room) (RD G [(z0, .inr (6, fs)), (z1, .inl (G.2 0, 404, .inl (nA M)))] [.ref z0, .int (nI c), .int (nI d)]) (QcRead (nI (bb (ahd M c d)))) 0 0 noF := rdM (C := RX6) rfl (by decide) rfl (Nat.le_of_ble_eq_true rfl) (fun pX eX sX mX bX meX cX ls hx hb hr hts hown hlk hml hP hK hl => by
  have hl : lv_has ls 4 [(0, .ref z0), (1, .int (nI c)), (2, .int (nI d))] := hl
  have hF6 : ∀ w ∈ wsX60, w ∈ wsX6_isAhead := fun _ h => (List.mem_cons_of_mem _ (List.mem_append_right _ h))
  have hg1 := gs_le h0 hc
  have hg2 := gs_le h0 hd
  have hs1 := h0.2.2.2.2.1
  refine lv_aload_n hx hb dX6_isAhead_0 rfl (lv_at hl 0 rfl) ?_
  refine va_get (D := G.1) (ci := 6) (v := .ref z1) (C := RX6) (T := TX6) (N := 9) hx hb hts hF6 hown hK hP 0 rfl rfl 0 (by decide) (hts (.fieldLink RX6 7 "CousinSharesModel" "s" "[I") (List.mem_of_getElem? (i := 1) rfl)) (fun _ h9 => h9) hf0 dX6_isAhead_1 ?_
  refine nr_si (v := 197) hx hb dX6_isAhead_4 (by decide +kernel) ?_
  refine nr_ald hx hb hK hP 1 rfl (by omega) (by decide) dX6_isAhead_7 ?_
  refine br_ne0 (tgt := 15) hx hb dX6_isAhead_8 (by decide) (by omega) (fun h1 => ?_) (fun h1 => ?_)
  · skip
    refine lv_aload_n hx hb dX6_isAhead_15 rfl (lv_at hl 0 rfl) ?_
    refine lv_iload_n hx hb dX6_isAhead_16 rfl (lv_at hl 1 rfl) ?_
    refine rcV (As := [.int (nI c)]) (wl := [(z0, .inr (6, fs)), (z1, .inl (G.2 0, 404, .inl (nA M)))]) ⟨hx, hb, hml, hown, hts⟩ (c_X6_grudges l G z0 z1 fs M c hf0 (by omega)) (cwV 1 hts gX6_isAhead_X6_grudges rfl rfl rfl (by decide +kernel) ⟨Nat.le_of_ble_eq_true rfl, Nat.le_of_ble_eq_true rfl⟩) hK hP 6 0 rfl rfl rfl hl.1 rfl (Nat.le_of_ble_eq_true rfl) dX6_isAhead_17 ⟨Nat.zero_le _, Nat.zero_le _⟩ ?_
    refine lv_aload_n hx hb dX6_isAhead_20 rfl (lv_at hl 0 rfl) ?_
    refine lv_iload_n hx hb dX6_isAhead_21 rfl (lv_at hl 2 rfl) ?_
    refine rcV (As := [.int (nI d)]) (wl := [(z0, .inr (6, fs)), (z1, .inl (G.2 0, 404, .inl (nA M)))]) ⟨hx, hb, hml, hown, hts⟩ (c_X6_grudges l G z0 z1 fs M d hf0 (by omega)) (cwV 1 hts gX6_isAhead_X6_grudges rfl rfl rfl (by decide +kernel) ⟨Nat.le_of_ble_eq_true rfl, Nat.le_of_ble_eq_true rfl⟩) hK hP 6 0 rfl rfl rfl hl.1 rfl (Nat.le_of_ble_eq_true rfl) dX6_isAhead_22 ⟨Nat.zero_le _, Nat.zero_le _⟩ ?_
    refine lv_isub hx hb dX6_isAhead_25 ?_
    refine lv_istore_n (lv' := [(3, .int ((nI (gs M c)) - (nI (gs M d)))), (0, .ref z0), (1, .int (nI c)), (2, .int (nI d))]) hx hb dX6_isAhead_26 rfl hl (by decide) rfl (fun ls hl => ?_)
    refine lv_iload_n hx hb dX6_isAhead_27 rfl (lv_at hl 0 rfl) ?_
    refine join_v (T := Nat) (J := 45) (nL := 4) (fun v => [(3, .int ((nI (gs M c)) - (nI (gs M d)))), (0, .ref z0), (1, .int (nI c)), (2, .int (nI d))]) (fun v => [.int (nI v)]) (fun v => v = bb ((0 < ((nI (gs M c)) - (nI (gs M d)))) ∨ ((((nI (gs M c)) - (nI (gs M d))) = 0) ∧ (¬ (d ≤ c))))) ?_ (fun jj2 => ?_)
    · intro v ls hl hv3
      subst hv3
      exact rretz hx hb hr hlk (congrArg nI (bb_c (by first | omega | (rw [sub_pos (by omega) (by omega), sub_zero (by omega) (by omega)]; omega)))) dX6_isAhead_45
    · skip
      refine lv_if_gt (tgt := 40) hx hb dX6_isAhead_28 (by decide) (fun h4 => ?_) (fun h4 => ?_)
      · skip
        refine nr_const (v := 1) hx hb dX6_isAhead_40 rfl ?_
        refine lv_goto (tgt := 45) hx hb dX6_isAhead_41 (by decide) ?_
        exact jj2 1 ls (lv_sub hl [0, 1, 2, 3] rfl) (bb_t (Or.inl h4)).symm
      · skip
        refine lv_iload_n hx hb dX6_isAhead_31 rfl (lv_at hl 0 rfl) ?_
        refine lv_if_ne (tgt := 44) hx hb dX6_isAhead_32 (by decide) (fun h5 => ?_) (fun h5 => ?_)
        · skip
          refine nr_const (v := 0) hx hb dX6_isAhead_44 rfl ?_
          exact jj2 0 ls (lv_sub hl [0, 1, 2, 3] rfl) (bb_f (fun q => q.elim h4 (fun q => h5 q.1))).symm
        · skip
          refine lv_iload_n hx hb dX6_isAhead_35 rfl (lv_at hl 2 rfl) ?_
          refine lv_iload_n hx hb dX6_isAhead_36 rfl (lv_at hl 3 rfl) ?_
          refine br_ige (tgt := 44) hx hb dX6_isAhead_37 (by decide) (by omega) (by omega) (fun h6 => ?_) (fun h6 => ?_)
          · skip
            refine nr_const (v := 0) hx hb dX6_isAhead_44 rfl ?_
            exact jj2 0 ls (lv_sub hl [0, 1, 2, 3] rfl) (bb_f (fun q => q.elim h4 (fun q => (fun q => q h6) q.2))).symm
          · skip
            refine nr_const (v := 1) hx hb dX6_isAhead_40 rfl ?_
            refine lv_goto (tgt := 45) hx hb dX6_isAhead_41 (by decide) ?_
            exact jj2 1 ls (lv_sub hl [0, 1, 2, 3] rfl) (bb_t (Or.inr ⟨h5, h6⟩)).symm
  · skip
    refine nr_const (v := 0) hx hb dX6_isAhead_11 rfl ?_
    refine lv_goto (tgt := 26) hx hb dX6_isAhead_12 (by decide) ?_
    refine lv_istore_n (lv' := [(3, .int (nI 0)), (0, .ref z0), (1, .int (nI c)), (2, .int (nI d))]) hx hb dX6_isAhead_26 rfl hl (by decide) rfl (fun ls hl => ?_)
    refine lv_iload_n hx hb dX6_isAhead_27 rfl (lv_at hl 0 rfl) ?_
    refine join_v (T := Nat) (J := 45) (nL := 4) (fun v => [(3, .int (nI 0)), (0, .ref z0), (1, .int (nI c)), (2, .int (nI d))]) (fun v => [.int (nI v)]) (fun v => v = bb ((0 < 0) ∨ ((0 = 0) ∧ (¬ (d ≤ c))))) ?_ (fun jj7 => ?_)
    · intro v ls hl hv8
      subst hv8
      exact rretz hx hb hr hlk (congrArg nI (bb_c (by first | omega | (rw [sub_pos (by omega) (by omega), sub_zero (by omega) (by omega)]; omega)))) dX6_isAhead_45
    · skip
      refine br_gt0 (tgt := 40) hx hb dX6_isAhead_28 (by decide) (by decide) (fun h9 => ?_) (fun h9 => ?_)
      · exact absurd h9 (by decide)
      · skip
        refine lv_iload_n hx hb dX6_isAhead_31 rfl (lv_at hl 0 rfl) ?_
        refine br_ne0 (tgt := 44) hx hb dX6_isAhead_32 (by decide) (by decide) (fun h10 => ?_) (fun h10 => ?_)
        · exact absurd (by decide) h10
        · skip
          refine lv_iload_n hx hb dX6_isAhead_35 rfl (lv_at hl 2 rfl) ?_
          refine lv_iload_n hx hb dX6_isAhead_36 rfl (lv_at hl 3 rfl) ?_
          refine br_ige (tgt := 44) hx hb dX6_isAhead_37 (by decide) (by omega) (by omega) (fun h11 => ?_) (fun h11 => ?_)
          · skip
            refine nr_const (v := 0) hx hb dX6_isAhead_44 rfl ?_
            exact jj7 0 ls (lv_sub hl [0, 1, 2, 3] rfl) (bb_f (fun q => q.elim h9 (fun q => (fun q => q h11) q.2))).symm
          · skip
            refine nr_const (v := 1) hx hb dX6_isAhead_40 rfl ?_
            refine lv_goto (tgt := 45) hx hb dX6_isAhead_41 (by decide) ?_
            exact jj7 1 ls (lv_sub hl [0, 1, 2, 3] rfl) (bb_t (Or.inr ⟨h10, h11⟩)).symm)

set_option maxHeartbeats 4000000 in
set_option maxRecDepth 100000 in
theorem c_X6_placeOf (l : Launch) (G : gG) (z0 : Nat) (z1 : Nat) (fs : List Value) (M : Nat → Nat) (c : Nat) (hf0 : fs[0]? = some (.ref z1)) (h0 : ok M) (hc : c < 7) : Met l yX6_placeOf wsX6_placeOf ({ frames := 3, cells := 0, slots := 0, locals := 68 } : Room) (RD G [(z0, .inr (6, fs)), (z1, .inl (G.2 0, 404, .inl (nA M)))] [.ref z0, .int (nI c)]) (QcRead (nI (pl M c))) 0 0 noF := rdM (C := RX6) rfl (by decide) rfl (Nat.le_of_ble_eq_true rfl) (fun pX eX sX mX bX meX cX ls hx hb hr hts hown hlk hml hP hK hl => by
  have hl : lv_has ls 4 [(0, .ref z0), (1, .int (nI c))] := hl
  refine nr_const (v := 0) hx hb dX6_placeOf_0 rfl ?_
  refine lv_istore_n (lv' := [(2, .int (nI 0)), (0, .ref z0), (1, .int (nI c))]) hx hb dX6_placeOf_1 rfl hl (by decide) rfl (fun ls hl => ?_)
  refine nr_const (v := 0) hx hb dX6_placeOf_2 rfl ?_
  refine lv_istore_n (lv' := [(3, .int (nI 0)), (2, .int (nI 0)), (0, .ref z0), (1, .int (nI c))]) hx hb dX6_placeOf_3 rfl hl (by decide) rfl (fun ls hl => ?_)
  refine loop_r (T := Nat) (nL := 4) (fun i => i ≤ 7) (fun i => 7 - i) (fun i => [(0, .ref z0), (1, .int (nI c)), (2, .int (nI (sm (fun k => bb (ahd M k c)) i))), (3, .int (nI i))]) ?_ 0 (lv_sub hl [2, 3, 1, 0] rfl) (by omega)
  intro i ls hl hi2 ih1
  have hi2_0 := hi2
  have hi2_0 : i ≤ 7 := hi2_0
  have hl : lv_has ls 4 [(0, .ref z0), (1, .int (nI c)), (2, .int (nI (sm (fun k => bb (ahd M k c)) i))), (3, .int (nI i))] := hl
  refine lv_iload_n hx hb dX6_placeOf_4 rfl (lv_at hl 3 rfl) ?_
  refine nr_bi (v := 7) hx hb dX6_placeOf_5 (by decide +kernel) ?_
  refine br_ige (tgt := 33) hx hb dX6_placeOf_7 (by decide) (by omega) (by decide) (fun h3 => ?_) (fun h3 => ?_)
  · skip
    refine lv_iload_n hx hb dX6_placeOf_33 rfl (lv_at hl 2 rfl) ?_
    exact rret hx hb hr hlk (by have e : i = 7 := (by omega); subst e; rfl) dX6_placeOf_34
  · skip
    refine lv_iload_n hx hb dX6_placeOf_10 rfl (lv_at hl 2 rfl) ?_
    refine lv_aload_n hx hb dX6_placeOf_11 rfl (lv_at hl 0 rfl) ?_
    refine lv_iload_n hx hb dX6_placeOf_12 rfl (lv_at hl 3 rfl) ?_
    refine lv_iload_n hx hb dX6_placeOf_13 rfl (lv_at hl 1 rfl) ?_
    refine rcV (As := [.int (nI i), .int (nI c)]) (wl := [(z0, .inr (6, fs)), (z1, .inl (G.2 0, 404, .inl (nA M)))]) ⟨hx, hb, hml, hown, hts⟩ (c_X6_isAhead l G z0 z1 fs M i c hf0 h0 (by omega) (by omega)) (cwV 2 hts gX6_placeOf_X6_isAhead rfl rfl rfl (by decide +kernel) ⟨Nat.le_of_ble_eq_true rfl, Nat.le_of_ble_eq_true rfl⟩) hK hP 6 0 rfl rfl rfl hl.1 rfl (Nat.le_of_ble_eq_true rfl) dX6_placeOf_14 ⟨Nat.zero_le _, Nat.zero_le _⟩ ?_
    refine join_v (T := Nat) (J := 25) (nL := 4) (fun v => [(0, .ref z0), (1, .int (nI c)), (2, .int (nI (sm (fun k => bb (ahd M k c)) i))), (3, .int (nI i))]) (fun v => [.int (nI v), .int (nI (sm (fun k => bb (ahd M k c)) i))]) (fun v => v = bb (ahd M i c)) ?_ (fun jj4 => ?_)
    · intro v ls hl hv5
      subst hv5
      refine nr_add hx hb dX6_placeOf_25 ?_
      refine lv_istore_n (lv' := [(2, .int (nI ((sm (fun k => bb (ahd M k c)) i) + (bb (ahd M i c))))), (0, .ref z0), (1, .int (nI c)), (3, .int (nI i))]) hx hb dX6_placeOf_26 rfl hl (by decide) rfl (fun ls hl => ?_)
      refine nr_inc (d := 1) (v := i + 1) (lv' := [(3, .int (nI (i + 1))), (2, .int (nI ((sm (fun k => bb (ahd M k c)) i) + (bb (ahd M i c))))), (0, .ref z0), (1, .int (nI c))]) hx hb dX6_placeOf_27 hl (k := 3) rfl rfl (by decide) rfl (fun ls hl => ?_)
      refine lv_goto (tgt := 4) hx hb dX6_placeOf_30 (by decide) ?_
      exact ih1 (i + 1) ls (lv_sub hl [2, 3, 1, 0] rfl) (by omega) (by omega)
    · skip
      refine br_eqb (tgt := 24) hx hb dX6_placeOf_17 (by decide) (fun h6 => ?_) (fun h6 => ?_)
      · skip
        refine nr_const (v := 0) hx hb dX6_placeOf_24 rfl ?_
        exact jj4 0 ls (lv_sub hl [0, 1, 2, 3] rfl) (bb_f h6).symm
      · skip
        refine nr_const (v := 1) hx hb dX6_placeOf_20 rfl ?_
        refine lv_goto (tgt := 25) hx hb dX6_placeOf_21 (by decide) ?_
        exact jj4 1 ls (lv_sub hl [0, 1, 2, 3] rfl) (bb_t h6).symm)

set_option maxHeartbeats 4000000 in
set_option maxRecDepth 100000 in
theorem c_X6_reason (l : Launch) (G : gG) (z0 : Nat) (z1 : Nat) (fs : List Value) (M : Nat → Nat) (p : Nat) (c : Nat) (d : Nat) (hf0 : fs[0]? = some (.ref z1)) (h0 : ok M) (hp : p ≤ 202) (hc : c < 7) (hd : d < 7) (hO : ∀ k, k < 24 → ow M p k < 8) : Met l yX6_reason wsX6_reason ({ frames := 2, cells := 0, slots := 0, locals := 49 } : Room) (RD G [(z0, .inr (6, fs)), (z1, .inl (G.2 0, 404, .inl (nA M)))] [.ref z0, .int (nI p), .int (nI c), .int (nI d)]) (QcRead (nI (rs M (ow M p) c d))) 0 0 noF := rdM (C := RX6) rfl (by decide) rfl (Nat.le_of_ble_eq_true rfl) (fun pX eX sX mX bX meX cX ls hx hb hr hts hown hlk hml hP hK hl => by
  have hl : lv_has ls 7 [(0, .ref z0), (1, .int (nI p)), (2, .int (nI c)), (3, .int (nI d))] := hl
  have hF6 : ∀ w ∈ wsX60, w ∈ wsX6_reason := fun _ h => (List.mem_cons_of_mem _ (List.mem_append_right _ h))
  have hg1 := gr_le h0 hc hd
  have hg2 := gr_le h0 hd hc
  have hs2 := h0.2.2.2.2.2.2
  have ha1 := sh_le (O := ow M p) (d := c) h0 hc
  have ha2 := sh_le (O := ow M p) (d := d) h0 hc
  have ha3 := sh_le (O := ow M p) (d := c) h0 hd
  have ha4 := sh_le (O := ow M p) (d := d) h0 hd
  refine lv_aload_n hx hb dX6_reason_0 rfl (lv_at hl 0 rfl) ?_
  refine va_get (D := G.1) (ci := 6) (v := .ref z1) (C := RX6) (T := TX6) (N := 9) hx hb hts hF6 hown hK hP 0 rfl rfl 0 (by decide) (hts (.fieldLink RX6 7 "CousinSharesModel" "s" "[I") (List.mem_of_getElem? (i := 1) rfl)) (fun _ h9 => h9) hf0 dX6_reason_1 ?_
  refine nr_si (v := 198) hx hb dX6_reason_4 (by decide +kernel) ?_
  refine nr_ald hx hb hK hP 1 rfl (by omega) (by decide) dX6_reason_7 ?_
  refine lv_istore (lv' := [(4, .int (nI (M 198))), (0, .ref z0), (1, .int (nI p)), (2, .int (nI c)), (3, .int (nI d))]) hx hb dX6_reason_8 hl (by decide) rfl (fun ls hl => ?_)
  refine lv_aload_n hx hb dX6_reason_10 rfl (lv_at hl 1 rfl) ?_
  refine lv_iload_n hx hb dX6_reason_11 rfl (lv_at hl 3 rfl) ?_
  refine lv_iload_n hx hb dX6_reason_12 rfl (lv_at hl 4 rfl) ?_
  refine rcV (As := [.int (nI c), .int (nI d)]) (wl := [(z0, .inr (6, fs)), (z1, .inl (G.2 0, 404, .inl (nA M)))]) ⟨hx, hb, hml, hown, hts⟩ (c_X6_grudgeOf l G z0 z1 fs M c d hf0 (by omega) (by omega)) (cwV 2 hts gX6_reason_X6_grudgeOf rfl rfl rfl (by decide +kernel) ⟨Nat.le_of_ble_eq_true rfl, Nat.le_of_ble_eq_true rfl⟩) hK hP 6 0 rfl rfl rfl hl.1 rfl (Nat.le_of_ble_eq_true rfl) dX6_reason_13 ⟨Nat.zero_le _, Nat.zero_le _⟩ ?_
  refine lv_iload hx hb dX6_reason_16 (lv_at hl 0 rfl) ?_
  refine br_ige (tgt := 32) hx hb dX6_reason_18 (by decide) (by omega) (by omega) (fun h1 => ?_) (fun h1 => ?_)
  · skip
    refine nr_const (v := 1) hx hb dX6_reason_32 rfl ?_
    exact rret hx hb hr hlk (congrArg nI (by unfold rs; (repeat' split) <;> first | rfl | omega)) dX6_reason_33
  · skip
    refine lv_aload_n hx hb dX6_reason_21 rfl (lv_at hl 1 rfl) ?_
    refine lv_iload_n hx hb dX6_reason_22 rfl (lv_at hl 4 rfl) ?_
    refine lv_iload_n hx hb dX6_reason_23 rfl (lv_at hl 3 rfl) ?_
    refine rcV (As := [.int (nI d), .int (nI c)]) (wl := [(z0, .inr (6, fs)), (z1, .inl (G.2 0, 404, .inl (nA M)))]) ⟨hx, hb, hml, hown, hts⟩ (c_X6_grudgeOf l G z0 z1 fs M d c hf0 (by omega) (by omega)) (cwV 2 hts gX6_reason_X6_grudgeOf rfl rfl rfl (by decide +kernel) ⟨Nat.le_of_ble_eq_true rfl, Nat.le_of_ble_eq_true rfl⟩) hK hP 6 0 rfl rfl rfl hl.1 rfl (Nat.le_of_ble_eq_true rfl) dX6_reason_24 ⟨Nat.zero_le _, Nat.zero_le _⟩ ?_
    refine lv_iload hx hb dX6_reason_27 (lv_at hl 0 rfl) ?_
    refine br_ilt (tgt := 34) hx hb dX6_reason_29 (by decide) (by omega) (by omega) (fun h2 => ?_) (fun h2 => ?_)
    · skip
      refine lv_aload_n hx hb dX6_reason_34 rfl (lv_at hl 1 rfl) ?_
      refine lv_iload_n hx hb dX6_reason_35 rfl (lv_at hl 2 rfl) ?_
      refine lv_iload_n hx hb dX6_reason_36 rfl (lv_at hl 3 rfl) ?_
      refine lv_iload_n hx hb dX6_reason_37 rfl (lv_at hl 4 rfl) ?_
      refine rcV (As := [.int (nI p), .int (nI c), .int (nI d)]) (wl := [(z0, .inr (6, fs)), (z1, .inl (G.2 0, 404, .inl (nA M)))]) ⟨hx, hb, hml, hown, hts⟩ (c_X6_share l G z0 z1 fs M p c d hf0 (by omega) (by omega) (by omega) hO) (cwV 3 hts gX6_reason_X6_share rfl rfl rfl (by decide +kernel) ⟨Nat.le_of_ble_eq_true rfl, Nat.le_of_ble_eq_true rfl⟩) hK hP 6 0 rfl rfl rfl hl.1 rfl (Nat.le_of_ble_eq_true rfl) dX6_reason_38 ⟨Nat.zero_le _, Nat.zero_le _⟩ ?_
      refine lv_aload_n hx hb dX6_reason_41 rfl (lv_at hl 1 rfl) ?_
      refine lv_iload_n hx hb dX6_reason_42 rfl (lv_at hl 2 rfl) ?_
      refine lv_iload_n hx hb dX6_reason_43 rfl (lv_at hl 3 rfl) ?_
      refine lv_iload_n hx hb dX6_reason_44 rfl (lv_at hl 3 rfl) ?_
      refine rcV (As := [.int (nI p), .int (nI c), .int (nI c)]) (wl := [(z0, .inr (6, fs)), (z1, .inl (G.2 0, 404, .inl (nA M)))]) ⟨hx, hb, hml, hown, hts⟩ (c_X6_share l G z0 z1 fs M p c c hf0 (by omega) (by omega) (by omega) hO) (cwV 3 hts gX6_reason_X6_share rfl rfl rfl (by decide +kernel) ⟨Nat.le_of_ble_eq_true rfl, Nat.le_of_ble_eq_true rfl⟩) hK hP 6 0 rfl rfl rfl hl.1 rfl (Nat.le_of_ble_eq_true rfl) dX6_reason_45 ⟨Nat.zero_le _, Nat.zero_le _⟩ ?_
      refine join_v (T := Nat) (J := 56) (nL := 7) (fun v => [(4, .int (nI (M 198))), (0, .ref z0), (1, .int (nI p)), (2, .int (nI c)), (3, .int (nI d))]) (fun v => [.int (nI v)]) (fun v => v = bb (¬ ((sh M (ow M p) c d) ≤ (sh M (ow M p) c c)))) ?_ (fun jj3 => ?_)
      · intro v ls hl hv4
        subst hv4
        refine lv_istore (lv' := [(5, .int (nI (bb (¬ ((sh M (ow M p) c d) ≤ (sh M (ow M p) c c)))))), (4, .int (nI (M 198))), (0, .ref z0), (1, .int (nI p)), (2, .int (nI c)), (3, .int (nI d))]) hx hb dX6_reason_56 hl (by decide) rfl (fun ls hl => ?_)
        refine lv_aload_n hx hb dX6_reason_58 rfl (lv_at hl 2 rfl) ?_
        refine lv_iload_n hx hb dX6_reason_59 rfl (lv_at hl 3 rfl) ?_
        refine lv_iload_n hx hb dX6_reason_60 rfl (lv_at hl 5 rfl) ?_
        refine lv_iload_n hx hb dX6_reason_61 rfl (lv_at hl 4 rfl) ?_
        refine rcV (As := [.int (nI p), .int (nI d), .int (nI c)]) (wl := [(z0, .inr (6, fs)), (z1, .inl (G.2 0, 404, .inl (nA M)))]) ⟨hx, hb, hml, hown, hts⟩ (c_X6_share l G z0 z1 fs M p d c hf0 (by omega) (by omega) (by omega) hO) (cwV 3 hts gX6_reason_X6_share rfl rfl rfl (by decide +kernel) ⟨Nat.le_of_ble_eq_true rfl, Nat.le_of_ble_eq_true rfl⟩) hK hP 6 0 rfl rfl rfl hl.1 rfl (Nat.le_of_ble_eq_true rfl) dX6_reason_62 ⟨Nat.zero_le _, Nat.zero_le _⟩ ?_
        refine lv_aload_n hx hb dX6_reason_65 rfl (lv_at hl 2 rfl) ?_
        refine lv_iload_n hx hb dX6_reason_66 rfl (lv_at hl 3 rfl) ?_
        refine lv_iload_n hx hb dX6_reason_67 rfl (lv_at hl 5 rfl) ?_
        refine lv_iload_n hx hb dX6_reason_68 rfl (lv_at hl 5 rfl) ?_
        refine rcV (As := [.int (nI p), .int (nI d), .int (nI d)]) (wl := [(z0, .inr (6, fs)), (z1, .inl (G.2 0, 404, .inl (nA M)))]) ⟨hx, hb, hml, hown, hts⟩ (c_X6_share l G z0 z1 fs M p d d hf0 (by omega) (by omega) (by omega) hO) (cwV 3 hts gX6_reason_X6_share rfl rfl rfl (by decide +kernel) ⟨Nat.le_of_ble_eq_true rfl, Nat.le_of_ble_eq_true rfl⟩) hK hP 6 0 rfl rfl rfl hl.1 rfl (Nat.le_of_ble_eq_true rfl) dX6_reason_69 ⟨Nat.zero_le _, Nat.zero_le _⟩ ?_
        refine join_v (T := Nat) (J := 80) (nL := 7) (fun v => [(5, .int (nI (bb (¬ ((sh M (ow M p) c d) ≤ (sh M (ow M p) c c)))))), (4, .int (nI (M 198))), (0, .ref z0), (1, .int (nI p)), (2, .int (nI c)), (3, .int (nI d))]) (fun v => [.int (nI v)]) (fun v => v = bb (¬ ((sh M (ow M p) d c) ≤ (sh M (ow M p) d d)))) ?_ (fun jj5 => ?_)
        · intro v ls hl hv6
          subst hv6
          refine lv_istore (lv' := [(6, .int (nI (bb (¬ ((sh M (ow M p) d c) ≤ (sh M (ow M p) d d)))))), (5, .int (nI (bb (¬ ((sh M (ow M p) c d) ≤ (sh M (ow M p) c c)))))), (4, .int (nI (M 198))), (0, .ref z0), (1, .int (nI p)), (2, .int (nI c)), (3, .int (nI d))]) hx hb dX6_reason_80 hl (by decide) rfl (fun ls hl => ?_)
          refine lv_iload hx hb dX6_reason_82 (lv_at hl 1 rfl) ?_
          refine join_v (T := Nat) (J := 101) (nL := 7) (fun v => [(6, .int (nI (bb (¬ ((sh M (ow M p) d c) ≤ (sh M (ow M p) d d)))))), (5, .int (nI (bb (¬ ((sh M (ow M p) c d) ≤ (sh M (ow M p) c c)))))), (4, .int (nI (M 198))), (0, .ref z0), (1, .int (nI p)), (2, .int (nI c)), (3, .int (nI d))]) (fun v => [.int (nI v)]) (fun v => v = (if ¬ ((sh M (ow M p) c d) ≤ (sh M (ow M p) c c)) then (if ¬ ((sh M (ow M p) d c) ≤ (sh M (ow M p) d d)) then 0 else 3) else 2)) ?_ (fun jj7 => ?_)
          · intro v ls hl hv8
            subst hv8
            exact rret hx hb hr hlk (congrArg nI (by unfold rs; (repeat' split) <;> first | rfl | omega)) dX6_reason_101
          · skip
            refine br_neb (tgt := 91) hx hb dX6_reason_84 (by decide) (fun h9 => ?_) (fun h9 => ?_)
            · skip
              refine lv_iload hx hb dX6_reason_91 (lv_at hl 0 rfl) ?_
              refine br_eqb (tgt := 100) hx hb dX6_reason_93 (by decide) (fun h10 => ?_) (fun h10 => ?_)
              · skip
                refine nr_const (v := 3) hx hb dX6_reason_100 rfl ?_
                exact jj7 3 ls (lv_sub hl [0, 1, 2, 3, 4, 5, 6] rfl) (by simp only [if_pos h9, if_neg h10])
              · skip
                refine nr_const (v := 0) hx hb dX6_reason_96 rfl ?_
                refine lv_goto (tgt := 101) hx hb dX6_reason_97 (by decide) ?_
                exact jj7 0 ls (lv_sub hl [0, 1, 2, 3, 4, 5, 6] rfl) (by simp only [if_pos h9, if_pos h10])
            · skip
              refine nr_const (v := 2) hx hb dX6_reason_87 rfl ?_
              refine lv_goto (tgt := 101) hx hb dX6_reason_88 (by decide) ?_
              exact jj7 2 ls (lv_sub hl [0, 1, 2, 3, 4, 5, 6] rfl) (by simp only [if_neg h9])
        · skip
          refine br_ile (tgt := 79) hx hb dX6_reason_72 (by decide) (by omega) (by omega) (fun h11 => ?_) (fun h11 => ?_)
          · skip
            refine nr_const (v := 0) hx hb dX6_reason_79 rfl ?_
            exact jj5 0 ls (lv_sub hl [0, 1, 2, 3, 4, 5] rfl) (bb_f (fun q => q h11)).symm
          · skip
            refine nr_const (v := 1) hx hb dX6_reason_75 rfl ?_
            refine lv_goto (tgt := 80) hx hb dX6_reason_76 (by decide) ?_
            exact jj5 1 ls (lv_sub hl [0, 1, 2, 3, 4, 5] rfl) (bb_t h11).symm
      · skip
        refine br_ile (tgt := 55) hx hb dX6_reason_48 (by decide) (by omega) (by omega) (fun h12 => ?_) (fun h12 => ?_)
        · skip
          refine nr_const (v := 0) hx hb dX6_reason_55 rfl ?_
          exact jj3 0 ls (lv_sub hl [0, 1, 2, 3, 4] rfl) (bb_f (fun q => q h12)).symm
        · skip
          refine nr_const (v := 1) hx hb dX6_reason_51 rfl ?_
          refine lv_goto (tgt := 56) hx hb dX6_reason_52 (by decide) ?_
          exact jj3 1 ls (lv_sub hl [0, 1, 2, 3, 4] rfl) (bb_t h12).symm
    · skip
      refine nr_const (v := 1) hx hb dX6_reason_32 rfl ?_
      exact rret hx hb hr hlk (congrArg nI (by unfold rs; (repeat' split) <;> first | rfl | omega)) dX6_reason_33)

set_option maxHeartbeats 4000000 in
set_option maxRecDepth 100000 in
theorem c_X6_hundredths (l : Launch) (G : gG) (z0 : Nat) (z1 : Nat) (fs : List Value) (M : Nat → Nat) (c : Nat) (hf0 : fs[0]? = some (.ref z1)) (h0 : ok M) (hc : c < 7) (hO : ∀ k, k < 24 → ow M 0 k < 8) : Met l yX6_hundredths wsX6_hundredths ({ frames := 2, cells := 0, slots := 0, locals := 49 } : Room) (RD G [(z0, .inr (6, fs)), (z1, .inl (G.2 0, 404, .inl (nA M)))] [.ref z0, .int (nI c)]) (QcRead (nI (if wf M c 0 = 0 then 0 else 100 * sh M (ow M 0) c c / wf M c 0))) 0 0 noF := rdM (C := RX6) rfl (by decide) rfl (Nat.le_of_ble_eq_true rfl) (fun pX eX sX mX bX meX cX ls hx hb hr hts hown hlk hml hP hK hl => by
  have hl : lv_has ls 3 [(0, .ref z0), (1, .int (nI c))] := hl
  have hw1 : wf M c 0 ≤ 7776 := sr_le (a := 0) (n := 24) h0 hc (by omega)
  have ha1 := sh_le (O := ow M 0) (d := c) h0 hc
  refine lv_aload_n hx hb dX6_hundredths_0 rfl (lv_at hl 0 rfl) ?_
  refine lv_iload_n hx hb dX6_hundredths_1 rfl (lv_at hl 1 rfl) ?_
  refine nr_const (v := 0) hx hb dX6_hundredths_2 rfl ?_
  refine rcV (As := [.int (nI c), .int (nI 0)]) (wl := [(z0, .inr (6, fs)), (z1, .inl (G.2 0, 404, .inl (nA M)))]) ⟨hx, hb, hml, hown, hts⟩ (c_X6_worthFrom l G z0 z1 fs M c 0 hf0 (by omega) (by omega)) (cwV 2 hts gX6_hundredths_X6_worthFrom rfl rfl rfl (by decide +kernel) ⟨Nat.le_of_ble_eq_true rfl, Nat.le_of_ble_eq_true rfl⟩) hK hP 6 0 rfl rfl rfl hl.1 rfl (Nat.le_of_ble_eq_true rfl) dX6_hundredths_3 ⟨Nat.zero_le _, Nat.zero_le _⟩ ?_
  refine lv_istore_n (lv' := [(2, .int (nI (wf M c 0))), (0, .ref z0), (1, .int (nI c))]) hx hb dX6_hundredths_6 rfl hl (by decide) rfl (fun ls hl => ?_)
  refine lv_iload_n hx hb dX6_hundredths_7 rfl (lv_at hl 0 rfl) ?_
  refine join_v (T := Nat) (J := 27) (nL := 3) (fun v => [(2, .int (nI (wf M c 0))), (0, .ref z0), (1, .int (nI c))]) (fun v => [.int (nI v)]) (fun v => v = (if (wf M c 0) = 0 then 0 else ((100 * (sh M (ow M 0) c c)) / (wf M c 0)))) ?_ (fun jj1 => ?_)
  · intro v ls hl hv2
    subst hv2
    exact rret hx hb hr hlk (rfl) dX6_hundredths_27
  · skip
    refine br_ne0 (tgt := 15) hx hb dX6_hundredths_8 (by decide) (by omega) (fun h3 => ?_) (fun h3 => ?_)
    · skip
      refine nr_bi (v := 100) hx hb dX6_hundredths_15 (by decide +kernel) ?_
      refine lv_aload_n hx hb dX6_hundredths_17 rfl (lv_at hl 1 rfl) ?_
      refine nr_const (v := 0) hx hb dX6_hundredths_18 rfl ?_
      refine lv_iload_n hx hb dX6_hundredths_19 rfl (lv_at hl 2 rfl) ?_
      refine lv_iload_n hx hb dX6_hundredths_20 rfl (lv_at hl 2 rfl) ?_
      refine rcV (As := [.int (nI 0), .int (nI c), .int (nI c)]) (wl := [(z0, .inr (6, fs)), (z1, .inl (G.2 0, 404, .inl (nA M)))]) ⟨hx, hb, hml, hown, hts⟩ (c_X6_share l G z0 z1 fs M 0 c c hf0 (by omega) (by omega) (by omega) hO) (cwV 3 hts gX6_hundredths_X6_share rfl rfl rfl (by decide +kernel) ⟨Nat.le_of_ble_eq_true rfl, Nat.le_of_ble_eq_true rfl⟩) hK hP 6 0 rfl rfl rfl hl.1 rfl (Nat.le_of_ble_eq_true rfl) dX6_hundredths_21 ⟨Nat.zero_le _, Nat.zero_le _⟩ ?_
      refine nr_mul hx hb dX6_hundredths_24 ?_
      refine lv_iload_n hx hb dX6_hundredths_25 rfl (lv_at hl 0 rfl) ?_
      refine nr_div hx hb dX6_hundredths_26 (by omega) (by omega) (by omega) ?_
      exact jj1 ((100 * (sh M (ow M 0) c c)) / (wf M c 0)) ls (lv_sub hl [0, 1, 2] rfl) (by simp only [if_neg h3])
    · skip
      refine nr_const (v := 0) hx hb dX6_hundredths_11 rfl ?_
      refine lv_goto (tgt := 27) hx hb dX6_hundredths_12 (by decide) ?_
      exact jj1 0 ls (lv_sub hl [0, 1, 2] rfl) (by simp only [if_pos h3]))

set_option maxHeartbeats 4000000 in
set_option maxRecDepth 100000 in
theorem c_X6_greatestEnvy (l : Launch) (G : gG) (z0 : Nat) (z1 : Nat) (fs : List Value) (M : Nat → Nat) (c : Nat) (hf0 : fs[0]? = some (.ref z1)) (h0 : ok M) (hc : c < 7) (hO : ∀ k, k < 24 → ow M 0 k < 8) : Met l yX6_greatestEnvy wsX6_greatestEnvy ({ frames := 4, cells := 0, slots := 0, locals := 96 } : Room) (RD G [(z0, .inr (6, fs)), (z1, .inl (G.2 0, 404, .inl (nA M)))] [.ref z0, .int (nI c)]) (QcRead (nI (me M (ow M 0) c 7))) 0 0 noF := rdM (C := RX6) rfl (by decide) rfl (Nat.le_of_ble_eq_true rfl) (fun pX eX sX mX bX meX cX ls hx hb hr hts hown hlk hml hP hK hl => by
  have hl : lv_has ls 5 [(0, .ref z0), (1, .int (nI c))] := hl
  refine nr_const (v := 0) hx hb dX6_greatestEnvy_0 rfl ?_
  refine lv_istore_n (lv' := [(2, .int (nI 0)), (0, .ref z0), (1, .int (nI c))]) hx hb dX6_greatestEnvy_1 rfl hl (by decide) rfl (fun ls hl => ?_)
  refine nr_const (v := 0) hx hb dX6_greatestEnvy_2 rfl ?_
  refine lv_istore_n (lv' := [(3, .int (nI 0)), (2, .int (nI 0)), (0, .ref z0), (1, .int (nI c))]) hx hb dX6_greatestEnvy_3 rfl hl (by decide) rfl (fun ls hl => ?_)
  refine loop_r (T := Nat) (nL := 5) (fun i => i ≤ 7) (fun i => 7 - i) (fun i => [(0, .ref z0), (1, .int (nI c)), (2, .int (nI (me M (ow M 0) c i))), (3, .int (nI i))]) ?_ 0 (lv_sub hl [2, 3, 1, 0] rfl) (by omega)
  intro i ls hl hi2 ih1
  have hi2_0 := hi2
  have hi2_0 : i ≤ 7 := hi2_0
  have hl : lv_has ls 5 [(0, .ref z0), (1, .int (nI c)), (2, .int (nI (me M (ow M 0) c i))), (3, .int (nI i))] := hl
  refine lv_iload_n hx hb dX6_greatestEnvy_4 rfl (lv_at hl 3 rfl) ?_
  refine nr_bi (v := 7) hx hb dX6_greatestEnvy_5 (by decide +kernel) ?_
  refine br_ige (tgt := 38) hx hb dX6_greatestEnvy_7 (by decide) (by omega) (by decide) (fun h3 => ?_) (fun h3 => ?_)
  · skip
    refine lv_iload_n hx hb dX6_greatestEnvy_38 rfl (lv_at hl 2 rfl) ?_
    exact rret hx hb hr hlk (by have e : i = 7 := (by omega); subst e; rfl) dX6_greatestEnvy_39
  · skip
    have hm1 := me_le (O := ow M 0) h0 hc (show i ≤ 7 by omega)
    have hm2 := ev_le (O := ow M 0) h0 hc (show i < 7 by omega)
    refine lv_aload_n hx hb dX6_greatestEnvy_10 rfl (lv_at hl 0 rfl) ?_
    refine nr_const (v := 0) hx hb dX6_greatestEnvy_11 rfl ?_
    refine lv_iload_n hx hb dX6_greatestEnvy_12 rfl (lv_at hl 1 rfl) ?_
    refine lv_iload_n hx hb dX6_greatestEnvy_13 rfl (lv_at hl 3 rfl) ?_
    refine rcV (As := [.int (nI 0), .int (nI c), .int (nI i)]) (wl := [(z0, .inr (6, fs)), (z1, .inl (G.2 0, 404, .inl (nA M)))]) ⟨hx, hb, hml, hown, hts⟩ (c_X6_envy l G z0 z1 fs M 0 c i hf0 h0 (by omega) (by omega) (by omega) hO) (cwV 3 hts gX6_greatestEnvy_X6_envy rfl rfl rfl (by decide +kernel) ⟨Nat.le_of_ble_eq_true rfl, Nat.le_of_ble_eq_true rfl⟩) hK hP 6 0 rfl rfl rfl hl.1 rfl (Nat.le_of_ble_eq_true rfl) dX6_greatestEnvy_14 ⟨Nat.zero_le _, Nat.zero_le _⟩ ?_
    refine lv_istore (lv' := [(4, .int (nI (ev M (ow M 0) c i))), (0, .ref z0), (1, .int (nI c)), (2, .int (nI (me M (ow M 0) c i))), (3, .int (nI i))]) hx hb dX6_greatestEnvy_17 hl (by decide) rfl (fun ls hl => ?_)
    refine lv_iload hx hb dX6_greatestEnvy_19 (lv_at hl 0 rfl) ?_
    refine lv_iload_n hx hb dX6_greatestEnvy_21 rfl (lv_at hl 3 rfl) ?_
    refine join_v (T := Nat) (J := 31) (nL := 5) (fun v => [(4, .int (nI (ev M (ow M 0) c i))), (0, .ref z0), (1, .int (nI c)), (2, .int (nI (me M (ow M 0) c i))), (3, .int (nI i))]) (fun v => [.int (nI v)]) (fun v => v = (if (ev M (ow M 0) c i) ≤ (me M (ow M 0) c i) then (me M (ow M 0) c i) else (ev M (ow M 0) c i))) ?_ (fun jj4 => ?_)
    · intro v ls hl hv5
      subst hv5
      refine lv_istore_n (lv' := [(2, .int (nI (if (ev M (ow M 0) c i) ≤ (me M (ow M 0) c i) then (me M (ow M 0) c i) else (ev M (ow M 0) c i)))), (4, .int (nI (ev M (ow M 0) c i))), (0, .ref z0), (1, .int (nI c)), (3, .int (nI i))]) hx hb dX6_greatestEnvy_31 rfl hl (by decide) rfl (fun ls hl => ?_)
      refine nr_inc (d := 1) (v := i + 1) (lv' := [(3, .int (nI (i + 1))), (2, .int (nI (if (ev M (ow M 0) c i) ≤ (me M (ow M 0) c i) then (me M (ow M 0) c i) else (ev M (ow M 0) c i)))), (4, .int (nI (ev M (ow M 0) c i))), (0, .ref z0), (1, .int (nI c))]) hx hb dX6_greatestEnvy_32 hl (k := 4) rfl rfl (by decide) rfl (fun ls hl => ?_)
      refine lv_goto (tgt := 4) hx hb dX6_greatestEnvy_35 (by decide) ?_
      exact ih1 (i + 1) ls (lv_sub hl [3, 4, 1, 0] rfl) (by omega) (by omega)
    · skip
      refine br_ile (tgt := 30) hx hb dX6_greatestEnvy_22 (by decide) (by omega) (by omega) (fun h6 => ?_) (fun h6 => ?_)
      · skip
        refine lv_iload_n hx hb dX6_greatestEnvy_30 rfl (lv_at hl 3 rfl) ?_
        exact jj4 (me M (ow M 0) c i) ls (lv_sub hl [0, 1, 2, 3, 4] rfl) (by simp only [if_pos h6])
      · skip
        refine lv_iload hx hb dX6_greatestEnvy_25 (lv_at hl 0 rfl) ?_
        refine lv_goto (tgt := 31) hx hb dX6_greatestEnvy_27 (by decide) ?_
        exact jj4 (ev M (ow M 0) c i) ls (lv_sub hl [0, 1, 2, 3, 4] rfl) (by simp only [if_neg h6]))

set_option maxHeartbeats 4000000 in
set_option maxRecDepth 100000 in
theorem c_X6_content (l : Launch) (G : gG) (z0 : Nat) (z1 : Nat) (fs : List Value) (M : Nat → Nat) (hf0 : fs[0]? = some (.ref z1)) (h0 : ok M) (hO : ∀ k, k < 24 → ow M 0 k < 8) : Met l yX6_content wsX6_content ({ frames := 5, cells := 0, slots := 0, locals := 120 } : Room) (RD G [(z0, .inr (6, fs)), (z1, .inl (G.2 0, 404, .inl (nA M)))] [.ref z0]) (QcRead (nI (sm (fun c => bb (me M (ow M 0) c 7 = 0)) 7))) 0 0 noF := rdM (C := RX6) rfl (by decide) rfl (Nat.le_of_ble_eq_true rfl) (fun pX eX sX mX bX meX cX ls hx hb hr hts hown hlk hml hP hK hl => by
  have hl : lv_has ls 3 [(0, .ref z0)] := hl
  refine nr_const (v := 0) hx hb dX6_content_0 rfl ?_
  refine lv_istore_n (lv' := [(1, .int (nI 0)), (0, .ref z0)]) hx hb dX6_content_1 rfl hl (by decide) rfl (fun ls hl => ?_)
  refine nr_const (v := 0) hx hb dX6_content_2 rfl ?_
  refine lv_istore_n (lv' := [(2, .int (nI 0)), (1, .int (nI 0)), (0, .ref z0)]) hx hb dX6_content_3 rfl hl (by decide) rfl (fun ls hl => ?_)
  refine loop_r (T := Nat) (nL := 3) (fun i => i ≤ 7) (fun i => 7 - i) (fun i => [(0, .ref z0), (1, .int (nI (sm (fun c => bb (me M (ow M 0) c 7 = 0)) i))), (2, .int (nI i))]) ?_ 0 (lv_sub hl [2, 1, 0] rfl) (by omega)
  intro i ls hl hi2 ih1
  have hi2_0 := hi2
  have hi2_0 : i ≤ 7 := hi2_0
  have hl : lv_has ls 3 [(0, .ref z0), (1, .int (nI (sm (fun c => bb (me M (ow M 0) c 7 = 0)) i))), (2, .int (nI i))] := hl
  refine lv_iload_n hx hb dX6_content_4 rfl (lv_at hl 2 rfl) ?_
  refine nr_bi (v := 7) hx hb dX6_content_5 (by decide +kernel) ?_
  refine br_ige (tgt := 32) hx hb dX6_content_7 (by decide) (by omega) (by decide) (fun h3 => ?_) (fun h3 => ?_)
  · skip
    refine lv_iload_n hx hb dX6_content_32 rfl (lv_at hl 1 rfl) ?_
    exact rret hx hb hr hlk (by have e : i = 7 := (by omega); subst e; rfl) dX6_content_33
  · skip
    have hm1 := me_le (O := ow M 0) h0 (show i < 7 by omega) (Nat.le_refl 7)
    refine lv_iload_n hx hb dX6_content_10 rfl (lv_at hl 1 rfl) ?_
    refine lv_aload_n hx hb dX6_content_11 rfl (lv_at hl 0 rfl) ?_
    refine lv_iload_n hx hb dX6_content_12 rfl (lv_at hl 2 rfl) ?_
    refine rcV (As := [.int (nI i)]) (wl := [(z0, .inr (6, fs)), (z1, .inl (G.2 0, 404, .inl (nA M)))]) ⟨hx, hb, hml, hown, hts⟩ (c_X6_greatestEnvy l G z0 z1 fs M i hf0 h0 (by omega) hO) (cwV 1 hts gX6_content_X6_greatestEnvy rfl rfl rfl (by decide +kernel) ⟨Nat.le_of_ble_eq_true rfl, Nat.le_of_ble_eq_true rfl⟩) hK hP 6 0 rfl rfl rfl hl.1 rfl (Nat.le_of_ble_eq_true rfl) dX6_content_13 ⟨Nat.zero_le _, Nat.zero_le _⟩ ?_
    refine join_v (T := Nat) (J := 24) (nL := 3) (fun v => [(0, .ref z0), (1, .int (nI (sm (fun c => bb (me M (ow M 0) c 7 = 0)) i))), (2, .int (nI i))]) (fun v => [.int (nI v), .int (nI (sm (fun c => bb (me M (ow M 0) c 7 = 0)) i))]) (fun v => v = bb ((me M (ow M 0) i 7) = 0)) ?_ (fun jj4 => ?_)
    · intro v ls hl hv5
      subst hv5
      refine nr_add hx hb dX6_content_24 ?_
      refine lv_istore_n (lv' := [(1, .int (nI ((sm (fun c => bb (me M (ow M 0) c 7 = 0)) i) + (bb ((me M (ow M 0) i 7) = 0))))), (0, .ref z0), (2, .int (nI i))]) hx hb dX6_content_25 rfl hl (by decide) rfl (fun ls hl => ?_)
      refine nr_inc (d := 1) (v := i + 1) (lv' := [(2, .int (nI (i + 1))), (1, .int (nI ((sm (fun c => bb (me M (ow M 0) c 7 = 0)) i) + (bb ((me M (ow M 0) i 7) = 0))))), (0, .ref z0)]) hx hb dX6_content_26 hl (k := 2) rfl rfl (by decide) rfl (fun ls hl => ?_)
      refine lv_goto (tgt := 4) hx hb dX6_content_29 (by decide) ?_
      exact ih1 (i + 1) ls (lv_sub hl [2, 1, 0] rfl) (by omega) (by omega)
    · skip
      refine br_ne0 (tgt := 23) hx hb dX6_content_16 (by decide) (by omega) (fun h6 => ?_) (fun h6 => ?_)
      · skip
        refine nr_const (v := 0) hx hb dX6_content_23 rfl ?_
        exact jj4 0 ls (lv_sub hl [0, 1, 2] rfl) (bb_f h6).symm
      · skip
        refine nr_const (v := 1) hx hb dX6_content_19 rfl ?_
        refine lv_goto (tgt := 24) hx hb dX6_content_20 (by decide) ?_
        exact jj4 1 ls (lv_sub hl [0, 1, 2] rfl) (bb_t h6).symm)

set_option maxHeartbeats 4000000 in
set_option maxRecDepth 100000 in
theorem c_X6_traders (l : Launch) (G : gG) (z0 : Nat) (z1 : Nat) (fs : List Value) (M : Nat → Nat) (hf0 : fs[0]? = some (.ref z1)) (h0 : ok M) (hO : ∀ k, k < 24 → ow M 0 k < 8) : Met l yX6_traders wsX6_traders ({ frames := 3, cells := 0, slots := 0, locals := 75 } : Room) (RD G [(z0, .inr (6, fs)), (z1, .inl (G.2 0, 404, .inl (nA M)))] [.ref z0]) (QcRead (nI (sm (fun k => bb (¬ k % 7 ≤ k / 7 ∧ rs M (ow M 0) (k / 7) (k % 7) = 0)) 49))) 0 0 noF := rdM (C := RX6) rfl (by decide) rfl (Nat.le_of_ble_eq_true rfl) (fun pX eX sX mX bX meX cX ls hx hb hr hts hown hlk hml hP hK hl => by
  have hl : lv_has ls 3 [(0, .ref z0)] := hl
  refine nr_const (v := 0) hx hb dX6_traders_0 rfl ?_
  refine lv_istore_n (lv' := [(1, .int (nI 0)), (0, .ref z0)]) hx hb dX6_traders_1 rfl hl (by decide) rfl (fun ls hl => ?_)
  refine nr_const (v := 0) hx hb dX6_traders_2 rfl ?_
  refine lv_istore_n (lv' := [(2, .int (nI 0)), (1, .int (nI 0)), (0, .ref z0)]) hx hb dX6_traders_3 rfl hl (by decide) rfl (fun ls hl => ?_)
  refine loop_r (T := Nat) (nL := 3) (fun i => i ≤ 49) (fun i => 49 - i) (fun i => [(0, .ref z0), (1, .int (nI (sm (fun k => bb (¬ k % 7 ≤ k / 7 ∧ rs M (ow M 0) (k / 7) (k % 7) = 0)) i))), (2, .int (nI i))]) ?_ 0 (lv_sub hl [2, 1, 0] rfl) (by omega)
  intro i ls hl hi2 ih1
  have hi2_0 := hi2
  have hi2_0 : i ≤ 49 := hi2_0
  have hl : lv_has ls 3 [(0, .ref z0), (1, .int (nI (sm (fun k => bb (¬ k % 7 ≤ k / 7 ∧ rs M (ow M 0) (k / 7) (k % 7) = 0)) i))), (2, .int (nI i))] := hl
  have hm1 := rs_lt M (ow M 0) (i / 7) (i % 7)
  refine lv_iload_n hx hb dX6_traders_4 rfl (lv_at hl 2 rfl) ?_
  refine nr_bi (v := 49) hx hb dX6_traders_5 (by decide +kernel) ?_
  refine br_ige (tgt := 51) hx hb dX6_traders_7 (by decide) (by omega) (by decide) (fun h3 => ?_) (fun h3 => ?_)
  · skip
    refine lv_iload_n hx hb dX6_traders_51 rfl (lv_at hl 1 rfl) ?_
    exact rret hx hb hr hlk (by have e : i = 49 := (by omega); subst e; rfl) dX6_traders_52
  · skip
    refine lv_iload_n hx hb dX6_traders_10 rfl (lv_at hl 1 rfl) ?_
    refine lv_iload_n hx hb dX6_traders_11 rfl (lv_at hl 2 rfl) ?_
    refine nr_bi (v := 7) hx hb dX6_traders_12 (by decide +kernel) ?_
    refine nr_div hx hb dX6_traders_14 (by omega) (by decide) (by decide) ?_
    refine lv_iload_n hx hb dX6_traders_15 rfl (lv_at hl 2 rfl) ?_
    refine nr_bi (v := 7) hx hb dX6_traders_16 (by decide +kernel) ?_
    refine nr_rem hx hb dX6_traders_18 (by omega) (by decide) (by decide) ?_
    refine join_v (T := Nat) (J := 43) (nL := 3) (fun v => [(0, .ref z0), (1, .int (nI (sm (fun k => bb (¬ k % 7 ≤ k / 7 ∧ rs M (ow M 0) (k / 7) (k % 7) = 0)) i))), (2, .int (nI i))]) (fun v => [.int (nI v), .int (nI (sm (fun k => bb (¬ k % 7 ≤ k / 7 ∧ rs M (ow M 0) (k / 7) (k % 7) = 0)) i))]) (fun v => v = bb (¬ ((i % 7) ≤ (i / 7)) ∧ ((rs M (ow M 0) (i / 7) (i % 7)) = 0))) ?_ (fun jj4 => ?_)
    · intro v ls hl hv5
      subst hv5
      refine nr_add hx hb dX6_traders_43 ?_
      refine lv_istore_n (lv' := [(1, .int (nI ((sm (fun k => bb (¬ k % 7 ≤ k / 7 ∧ rs M (ow M 0) (k / 7) (k % 7) = 0)) i) + (bb (¬ ((i % 7) ≤ (i / 7)) ∧ ((rs M (ow M 0) (i / 7) (i % 7)) = 0)))))), (0, .ref z0), (2, .int (nI i))]) hx hb dX6_traders_44 rfl hl (by decide) rfl (fun ls hl => ?_)
      refine nr_inc (d := 1) (v := i + 1) (lv' := [(2, .int (nI (i + 1))), (1, .int (nI ((sm (fun k => bb (¬ k % 7 ≤ k / 7 ∧ rs M (ow M 0) (k / 7) (k % 7) = 0)) i) + (bb (¬ ((i % 7) ≤ (i / 7)) ∧ ((rs M (ow M 0) (i / 7) (i % 7)) = 0)))))), (0, .ref z0)]) hx hb dX6_traders_45 hl (k := 2) rfl rfl (by decide) rfl (fun ls hl => ?_)
      refine lv_goto (tgt := 4) hx hb dX6_traders_48 (by decide) ?_
      exact ih1 (i + 1) ls (lv_sub hl [2, 1, 0] rfl) (by omega) (by omega)
    · skip
      refine br_ige (tgt := 42) hx hb dX6_traders_19 (by decide) (by omega) (by omega) (fun h6 => ?_) (fun h6 => ?_)
      · skip
        refine nr_const (v := 0) hx hb dX6_traders_42 rfl ?_
        exact jj4 0 ls (lv_sub hl [0, 1, 2] rfl) (bb_f (fun q => q.1 h6)).symm
      · skip
        refine lv_aload_n hx hb dX6_traders_22 rfl (lv_at hl 0 rfl) ?_
        refine nr_const (v := 0) hx hb dX6_traders_23 rfl ?_
        refine lv_iload_n hx hb dX6_traders_24 rfl (lv_at hl 2 rfl) ?_
        refine nr_bi (v := 7) hx hb dX6_traders_25 (by decide +kernel) ?_
        refine nr_div hx hb dX6_traders_27 (by omega) (by decide) (by decide) ?_
        refine lv_iload_n hx hb dX6_traders_28 rfl (lv_at hl 2 rfl) ?_
        refine nr_bi (v := 7) hx hb dX6_traders_29 (by decide +kernel) ?_
        refine nr_rem hx hb dX6_traders_31 (by omega) (by decide) (by decide) ?_
        refine rcV (As := [.int (nI 0), .int (nI (i / 7)), .int (nI (i % 7))]) (wl := [(z0, .inr (6, fs)), (z1, .inl (G.2 0, 404, .inl (nA M)))]) ⟨hx, hb, hml, hown, hts⟩ (c_X6_reason l G z0 z1 fs M 0 (i / 7) (i % 7) hf0 h0 (by omega) (by omega) (by omega) hO) (cwV 3 hts gX6_traders_X6_reason rfl rfl rfl (by decide +kernel) ⟨Nat.le_of_ble_eq_true rfl, Nat.le_of_ble_eq_true rfl⟩) hK hP 6 0 rfl rfl rfl hl.1 rfl (Nat.le_of_ble_eq_true rfl) dX6_traders_32 ⟨Nat.zero_le _, Nat.zero_le _⟩ ?_
        refine br_ne0 (tgt := 42) hx hb dX6_traders_35 (by decide) (by omega) (fun h7 => ?_) (fun h7 => ?_)
        · skip
          refine nr_const (v := 0) hx hb dX6_traders_42 rfl ?_
          exact jj4 0 ls (lv_sub hl [0, 1, 2] rfl) (bb_f (fun q => h7 q.2)).symm
        · skip
          refine nr_const (v := 1) hx hb dX6_traders_38 rfl ?_
          refine lv_goto (tgt := 43) hx hb dX6_traders_39 (by decide) ?_
          exact jj4 1 ls (lv_sub hl [0, 1, 2] rfl) (bb_t ⟨h6, h7⟩).symm)

set_option maxHeartbeats 4000000 in
set_option maxRecDepth 100000 in
theorem c_X6_plotsOf (l : Launch) (G : gG) (z0 : Nat) (z1 : Nat) (fs : List Value) (M : Nat → Nat) (d : Nat) (hf0 : fs[0]? = some (.ref z1)) (hd : d < 8) (hO : ∀ k, k < 24 → ow M 0 k < 8) : Met l yX6_plotsOf wsX6_plotsOf ({ frames := 0, cells := 0, slots := 0, locals := 0 } : Room) (RD G [(z0, .inr (6, fs)), (z1, .inl (G.2 0, 404, .inl (nA M)))] [.ref z0, .int (nI d)]) (QcRead (nI (pc4 (ow M 0) d))) 0 0 noF := rdM (C := RX6) rfl (by decide) rfl (Nat.le_of_ble_eq_true rfl) (fun pX eX sX mX bX meX cX ls hx hb hr hts hown hlk hml hP hK hl => by
  have hl : lv_has ls 5 [(0, .ref z0), (1, .int (nI d))] := hl
  have hF6 : ∀ w ∈ wsX60, w ∈ wsX6_plotsOf := fun _ h => (List.mem_cons_of_mem _ (List.mem_append_right _ h))
  refine nr_const (v := 0) hx hb dX6_plotsOf_0 rfl ?_
  refine lv_istore_n (lv' := [(2, .int (nI 0)), (0, .ref z0), (1, .int (nI d))]) hx hb dX6_plotsOf_1 rfl hl (by decide) rfl (fun ls hl => ?_)
  refine nr_const (v := 0) hx hb dX6_plotsOf_2 rfl ?_
  refine lv_istore_n (lv' := [(3, .int (nI 0)), (2, .int (nI 0)), (0, .ref z0), (1, .int (nI d))]) hx hb dX6_plotsOf_3 rfl hl (by decide) rfl (fun ls hl => ?_)
  refine loop_r (T := Nat) (nL := 5) (fun i => i ≤ 24) (fun i => 24 - i) (fun i => [(0, .ref z0), (1, .int (nI d)), (2, .int (nI (sm (fun k => bb (ow M 0 k = d)) i))), (3, .int (nI i))]) ?_ 0 (lv_sub hl [2, 3, 1, 0] rfl) (by omega)
  intro i ls hl hi2 ih1
  have hi2_0 := hi2
  have hi2_0 : i ≤ 24 := hi2_0
  have hl : lv_has ls 5 [(0, .ref z0), (1, .int (nI d)), (2, .int (nI (sm (fun k => bb (ow M 0 k = d)) i))), (3, .int (nI i))] := hl
  refine lv_iload_n hx hb dX6_plotsOf_4 rfl (lv_at hl 3 rfl) ?_
  refine nr_bi (v := 24) hx hb dX6_plotsOf_5 (by decide +kernel) ?_
  refine br_ige (tgt := 75) hx hb dX6_plotsOf_7 (by decide) (by omega) (by decide) (fun h3 => ?_) (fun h3 => ?_)
  · skip
    refine lv_iload_n hx hb dX6_plotsOf_75 rfl (lv_at hl 2 rfl) ?_
    exact rret hx hb hr hlk (by have e : i = 24 := (by omega); subst e; rfl) dX6_plotsOf_76
  · skip
    refine lv_iload_n hx hb dX6_plotsOf_10 rfl (lv_at hl 1 rfl) ?_
    refine br_ge0 (tgt := 36) hx hb dX6_plotsOf_11 (by decide) (by omega) ?_
    have hb1 : M (96 + i) < 8 := by have := hO i (by omega); unfold ow at this; rwa [show 0 + 96 + i = 96 + i by omega] at this
    refine lv_aload_n hx hb dX6_plotsOf_36 rfl (lv_at hl 0 rfl) ?_
    refine va_get (D := G.1) (ci := 6) (v := .ref z1) (C := RX6) (T := TX6) (N := 9) hx hb hts hF6 hown hK hP 0 rfl rfl 0 (by decide) (hts (.fieldLink RX6 7 "CousinSharesModel" "s" "[I") (List.mem_of_getElem? (i := 1) rfl)) (fun _ h9 => h9) hf0 dX6_plotsOf_37 ?_
    refine nr_bi (v := 96) hx hb dX6_plotsOf_40 (by decide +kernel) ?_
    refine lv_iload_n hx hb dX6_plotsOf_42 rfl (lv_at hl 3 rfl) ?_
    refine nr_add hx hb dX6_plotsOf_43 ?_
    refine nr_ald hx hb hK hP 1 rfl (by omega) (by decide) dX6_plotsOf_44 ?_
    refine lv_iload_n hx hb dX6_plotsOf_45 rfl (lv_at hl 1 rfl) ?_
    refine join_v (T := Nat) (J := 54) (nL := 5) (fun v => [(0, .ref z0), (1, .int (nI d)), (2, .int (nI (sm (fun k => bb (ow M 0 k = d)) i))), (3, .int (nI i))]) (fun v => [.int (nI v)]) (fun v => v = bb ((M (96 + i)) = d)) ?_ (fun jj4 => ?_)
    · intro v ls hl hv5
      subst hv5
      refine lv_istore (lv' := [(4, .int (nI (bb ((M (96 + i)) = d)))), (0, .ref z0), (1, .int (nI d)), (2, .int (nI (sm (fun k => bb (ow M 0 k = d)) i))), (3, .int (nI i))]) hx hb dX6_plotsOf_54 hl (by decide) rfl (fun ls hl => ?_)
      refine lv_iload_n hx hb dX6_plotsOf_56 rfl (lv_at hl 3 rfl) ?_
      refine lv_iload hx hb dX6_plotsOf_57 (lv_at hl 0 rfl) ?_
      refine join_v (T := Nat) (J := 67) (nL := 5) (fun v => [(4, .int (nI (bb ((M (96 + i)) = d)))), (0, .ref z0), (1, .int (nI d)), (2, .int (nI (sm (fun k => bb (ow M 0 k = d)) i))), (3, .int (nI i))]) (fun v => [.int (nI v), .int (nI (sm (fun k => bb (ow M 0 k = d)) i))]) (fun v => v = bb ((M (96 + i)) = d)) ?_ (fun jj6 => ?_)
      · intro v ls hl hv7
        subst hv7
        refine nr_add hx hb dX6_plotsOf_67 ?_
        refine lv_istore_n (lv' := [(2, .int (nI ((sm (fun k => bb (ow M 0 k = d)) i) + (bb ((M (96 + i)) = d))))), (4, .int (nI (bb ((M (96 + i)) = d)))), (0, .ref z0), (1, .int (nI d)), (3, .int (nI i))]) hx hb dX6_plotsOf_68 rfl hl (by decide) rfl (fun ls hl => ?_)
        refine nr_inc (d := 1) (v := i + 1) (lv' := [(3, .int (nI (i + 1))), (2, .int (nI ((sm (fun k => bb (ow M 0 k = d)) i) + (bb ((M (96 + i)) = d))))), (4, .int (nI (bb ((M (96 + i)) = d)))), (0, .ref z0), (1, .int (nI d))]) hx hb dX6_plotsOf_69 hl (k := 4) rfl rfl (by decide) rfl (fun ls hl => ?_)
        refine lv_goto (tgt := 4) hx hb dX6_plotsOf_72 (by decide) ?_
        exact ih1 (i + 1) ls (lv_sub hl [3, 4, 1, 0] rfl) (by omega) (by omega)
      · skip
        refine br_eqb (tgt := 66) hx hb dX6_plotsOf_59 (by decide) (fun h8 => ?_) (fun h8 => ?_)
        · skip
          refine nr_const (v := 0) hx hb dX6_plotsOf_66 rfl ?_
          exact jj6 0 ls (lv_sub hl [0, 1, 2, 3, 4] rfl) (bb_f h8).symm
        · skip
          refine nr_const (v := 1) hx hb dX6_plotsOf_62 rfl ?_
          refine lv_goto (tgt := 67) hx hb dX6_plotsOf_63 (by decide) ?_
          exact jj6 1 ls (lv_sub hl [0, 1, 2, 3, 4] rfl) (bb_t h8).symm
    · skip
      refine br_ine (tgt := 53) hx hb dX6_plotsOf_46 (by decide) (by omega) (by omega) (fun h9 => ?_) (fun h9 => ?_)
      · skip
        refine nr_const (v := 0) hx hb dX6_plotsOf_53 rfl ?_
        exact jj4 0 ls (lv_sub hl [0, 1, 2, 3] rfl) (bb_f h9).symm
      · skip
        refine nr_const (v := 1) hx hb dX6_plotsOf_49 rfl ?_
        refine lv_goto (tgt := 54) hx hb dX6_plotsOf_50 (by decide) ?_
        exact jj4 1 ls (lv_sub hl [0, 1, 2, 3] rfl) (bb_t h9).symm)

set_option maxHeartbeats 4000000 in
set_option maxRecDepth 100000 in
theorem c_X6_fair (l : Launch) (G : gG) (z0 : Nat) (z1 : Nat) (fs : List Value) (M : Nat → Nat) (c : Nat) (a : Nat) (n : Nat) (hf0 : fs[0]? = some (.ref z1)) (h0 : ok M) (hc : c < 7) (ha : a ≤ 24) (hn : 1 ≤ n) (hn7 : n ≤ 7) : Met l yX6_fair wsX6_fair ({ frames := 2, cells := 0, slots := 0, locals := 48 } : Room) (RD G [(z0, .inr (6, fs)), (z1, .inl (G.2 0, 404, .inl (nA M)))] [.ref z0, .int (nI c), .int (nI a), .int (nI n)]) (QcRead (nI (fp M c n a))) 0 0 noF := rdM (C := RX6) rfl (by decide) rfl (Nat.le_of_ble_eq_true rfl) (fun pX eX sX mX bX meX cX ls hx hb hr hts hown hlk hml hP hK hl => by
  have hl : lv_has ls 7 [(0, .ref z0), (1, .int (nI c)), (2, .int (nI a)), (3, .int (nI n))] := hl
  refine lv_aload_n hx hb dX6_fair_0 rfl (lv_at hl 0 rfl) ?_
  refine lv_iload_n hx hb dX6_fair_1 rfl (lv_at hl 1 rfl) ?_
  refine lv_iload_n hx hb dX6_fair_2 rfl (lv_at hl 2 rfl) ?_
  refine rcV (As := [.int (nI c), .int (nI a)]) (wl := [(z0, .inr (6, fs)), (z1, .inl (G.2 0, 404, .inl (nA M)))]) ⟨hx, hb, hml, hown, hts⟩ (c_X6_worthFrom l G z0 z1 fs M c a hf0 (by omega) (by omega)) (cwV 2 hts gX6_fair_X6_worthFrom rfl rfl rfl (by decide +kernel) ⟨Nat.le_of_ble_eq_true rfl, Nat.le_of_ble_eq_true rfl⟩) hK hP 6 0 rfl rfl rfl hl.1 rfl (Nat.le_of_ble_eq_true rfl) dX6_fair_3 ⟨Nat.zero_le _, Nat.zero_le _⟩ ?_
  refine lv_istore (lv' := [(4, .int (nI (wf M c a))), (0, .ref z0), (1, .int (nI c)), (2, .int (nI a)), (3, .int (nI n))]) hx hb dX6_fair_6 hl (by decide) rfl (fun ls hl => ?_)
  refine nr_const (v := 0) hx hb dX6_fair_8 rfl ?_
  refine lv_istore (lv' := [(5, .int (nI 0)), (4, .int (nI (wf M c a))), (0, .ref z0), (1, .int (nI c)), (2, .int (nI a)), (3, .int (nI n))]) hx hb dX6_fair_9 hl (by decide) rfl (fun ls hl => ?_)
  refine nr_const (v := 0) hx hb dX6_fair_11 rfl ?_
  refine lv_istore (lv' := [(6, .int (nI 0)), (5, .int (nI 0)), (4, .int (nI (wf M c a))), (0, .ref z0), (1, .int (nI c)), (2, .int (nI a)), (3, .int (nI n))]) hx hb dX6_fair_12 hl (by decide) rfl (fun ls hl => ?_)
  refine loop_r (T := Nat) (nL := 7) (fun i => i ≤ 24 - a ∧ fpF M c n a (24 - a - i) i = fp M c n a) (fun i => 24 - a - i) (fun i => [(0, .ref z0), (1, .int (nI c)), (2, .int (nI a)), (3, .int (nI n)), (4, .int (nI (wf M c a))), (5, .int (nI i)), (6, .int (nI (sr (wr M c) a i)))]) ?_ 0 (lv_sub hl [3, 4, 5, 6, 2, 1, 0] rfl) ⟨by omega, rfl⟩
  intro i ls hl hi2 ih1
  obtain ⟨hi2_0, hi2_1⟩ := hi2
  have hi2_0 : i ≤ 24 - a := hi2_0
  have hi2_1 : fpF M c n a (24 - a - i) i = fp M c n a := hi2_1
  have hl : lv_has ls 7 [(0, .ref z0), (1, .int (nI c)), (2, .int (nI a)), (3, .int (nI n)), (4, .int (nI (wf M c a))), (5, .int (nI i)), (6, .int (nI (sr (wr M c) a i)))] := hl
  have hsr := sr_le (n := i) (a := a) h0 hc (by omega)
  have hwf : wf M c a ≤ 7776 := sr_le (n := 24 - a) (a := a) h0 hc (by omega)
  have hml2 : sr (wr M c) a i * n ≤ 7776 * 7 := Nat.mul_le_mul hsr hn7
  refine lv_iload hx hb dX6_fair_14 (lv_at hl 6 rfl) ?_
  refine lv_iload_n hx hb dX6_fair_16 rfl (lv_at hl 3 rfl) ?_
  refine nr_mul hx hb dX6_fair_17 ?_
  refine lv_iload hx hb dX6_fair_18 (lv_at hl 4 rfl) ?_
  refine br_ige (tgt := 43) hx hb dX6_fair_20 (by decide) (by omega) (by omega) (fun h3 => ?_) (fun h3 => ?_)
  · skip
    refine lv_iload hx hb dX6_fair_43 (lv_at hl 5 rfl) ?_
    exact rret hx hb hr hlk (by rw [← hi2_1, fpF_end (by assumption)]) dX6_fair_45
  · skip
    have hlt := fp_body hn (by assumption) (by assumption)
    refine lv_iload hx hb dX6_fair_23 (lv_at hl 6 rfl) ?_
    refine lv_aload_n hx hb dX6_fair_25 rfl (lv_at hl 0 rfl) ?_
    refine lv_iload_n hx hb dX6_fair_26 rfl (lv_at hl 1 rfl) ?_
    refine lv_iload_n hx hb dX6_fair_27 rfl (lv_at hl 2 rfl) ?_
    refine lv_iload hx hb dX6_fair_28 (lv_at hl 5 rfl) ?_
    refine nr_add hx hb dX6_fair_30 ?_
    refine rcV (As := [.int (nI c), .int (nI (a + i))]) (wl := [(z0, .inr (6, fs)), (z1, .inl (G.2 0, 404, .inl (nA M)))]) ⟨hx, hb, hml, hown, hts⟩ (c_X6_worth l G z0 z1 fs M c (a + i) hf0 (by omega) (by omega)) (cwV 2 hts gX6_fair_X6_worth rfl rfl rfl (by decide +kernel) ⟨Nat.le_of_ble_eq_true rfl, Nat.le_of_ble_eq_true rfl⟩) hK hP 6 0 rfl rfl rfl hl.1 rfl (Nat.le_of_ble_eq_true rfl) dX6_fair_31 ⟨Nat.zero_le _, Nat.zero_le _⟩ ?_
    refine nr_add hx hb dX6_fair_34 ?_
    refine lv_istore (lv' := [(6, .int (nI ((sr (wr M c) a i) + (wr M c (a + i))))), (0, .ref z0), (1, .int (nI c)), (2, .int (nI a)), (3, .int (nI n)), (4, .int (nI (wf M c a))), (5, .int (nI i))]) hx hb dX6_fair_35 hl (by decide) rfl (fun ls hl => ?_)
    refine nr_inc (d := 1) (v := i + 1) (lv' := [(5, .int (nI (i + 1))), (6, .int (nI ((sr (wr M c) a i) + (wr M c (a + i))))), (0, .ref z0), (1, .int (nI c)), (2, .int (nI a)), (3, .int (nI n)), (4, .int (nI (wf M c a)))]) hx hb dX6_fair_37 hl (k := 6) rfl rfl (by decide) rfl (fun ls hl => ?_)
    refine lv_goto (tgt := 14) hx hb dX6_fair_40 (by decide) ?_
    exact ih1 (i + 1) ls (lv_sub hl [2, 3, 4, 5, 6, 0, 1] rfl) ⟨by omega, (fpF_step hlt (by assumption)).trans hi2_1⟩ (by omega))
