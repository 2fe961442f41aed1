set_option maxHeartbeats 4000000 in
set_option maxRecDepth 100000 in
theorem c_L_low (l : Launch) (v : Int32) (n : Nat) (hn : 0 < n) (hn2 : n < 128) : Met l yL_low wsL_low ({ frames := 0, cells := 0, slots := 0, locals := 0 } : Room) (RS [.int v, .int (nI n)]) (QcRead (nI (lo v n))) 0 0 noF := stM (C := RL) rfl (by decide) rfl (Nat.le_of_ble_eq_true rfl) (fun pX eX sX mX bX meX cX ls hx hb hr hts hown hlk hml hl => by
  have hl : lv_has ls 2 [(0, .int v), (1, .int (nI n))] := hl
  refine lv_iload_n hx hb dL_low_0 rfl (lv_at hl 0 rfl) ?_
  refine lv_ldc (v := (2147483647)) hx hb hown (hts (.constant RL 7 (2147483647)) (List.mem_of_getElem? (i := 1) rfl)) dL_low_1 ?_
  refine lv_iand hx hb dL_low_3 ?_
  refine nr_top (y := nI (v.toBitVec.toNat % 2147483648)) (lo_a v) ?_
  refine lv_iload_n hx hb dL_low_4 rfl (lv_at hl 1 rfl) ?_
  refine nr_rem hx hb dL_low_5 (Nat.mod_lt _ (by decide)) (by omega) (by omega) ?_
  exact rret hx hb hr hlk (rfl) dL_low_6)

set_option maxHeartbeats 4000000 in
set_option maxRecDepth 100000 in
theorem c_L_ones (l : Launch) (A : Nat) (hA : A < 128) : Met l yL_ones wsL_ones ({ frames := 0, cells := 0, slots := 0, locals := 0 } : Room) (RS [.int (nI A)]) (QcRead (nI (on A))) 0 0 noF := stM (C := RL) rfl (by decide) rfl (Nat.le_of_ble_eq_true rfl) (fun pX eX sX mX bX meX cX ls hx hb hr hts hown hlk hml hl => by
  have hl : lv_has ls 3 [(0, .int (nI A))] := hl
  refine nr_const (v := 0) hx hb dL_ones_0 rfl ?_
  refine lv_istore_n (lv' := [(1, .int (nI 0)), (0, .int (nI A))]) hx hb dL_ones_1 rfl hl (by decide) rfl (fun ls hl => ?_)
  refine nr_const (v := 0) hx hb dL_ones_2 rfl ?_
  refine lv_istore_n (lv' := [(2, .int (nI 0)), (1, .int (nI 0)), (0, .int (nI A))]) hx hb dL_ones_3 rfl hl (by decide) rfl (fun ls hl => ?_)
  refine loop_r (T := Nat) (nL := 3) (fun k => k ≤ 7) (fun k => 7 - k) (fun k => [(0, .int (nI A)), (1, .int (nI (sm (fun j => bt A j) k))), (2, .int (nI k))]) ?_ 0 (lv_sub hl [2, 1, 0] rfl) (by omega)
  intro k ls hl hi2 ih1
  have hi2_0 := hi2
  have hi2_0 : k ≤ 7 := hi2_0
  have hl : lv_has ls 3 [(0, .int (nI A)), (1, .int (nI (sm (fun j => bt A j) k))), (2, .int (nI k))] := hl
  refine lv_iload_n hx hb dL_ones_4 rfl (lv_at hl 2 rfl) ?_
  refine nr_bi (v := 7) hx hb dL_ones_5 (by decide +kernel) ?_
  refine br_ige (tgt := 24) hx hb dL_ones_7 (by decide) (by omega) (by decide) (fun h3 => ?_) (fun h3 => ?_)
  · skip
    refine lv_iload_n hx hb dL_ones_24 rfl (lv_at hl 1 rfl) ?_
    exact rret hx hb hr hlk (by have e : k = 7 := (by omega); subst e; rfl) dL_ones_25
  · skip
    refine lv_iload_n hx hb dL_ones_10 rfl (lv_at hl 1 rfl) ?_
    refine lv_iload_n hx hb dL_ones_11 rfl (lv_at hl 0 rfl) ?_
    refine lv_iload_n hx hb dL_ones_12 rfl (lv_at hl 2 rfl) ?_
    refine lv_ishr hx hb dL_ones_13 ?_
    refine nr_const (v := 1) hx hb dL_ones_14 rfl ?_
    refine lv_iand hx hb dL_ones_15 ?_
    refine nr_top (bt_shr (by omega) (by omega)) ?_
    refine nr_add hx hb dL_ones_16 ?_
    refine lv_istore_n (lv' := [(1, .int (nI ((sm (fun j => bt A j) k) + (bt A k)))), (0, .int (nI A)), (2, .int (nI k))]) hx hb dL_ones_17 rfl hl (by decide) rfl (fun ls hl => ?_)
    refine nr_inc (d := 1) (v := k + 1) (lv' := [(2, .int (nI (k + 1))), (1, .int (nI ((sm (fun j => bt A j) k) + (bt A k)))), (0, .int (nI A))]) hx hb dL_ones_18 hl (k := 2) rfl rfl (by decide) rfl (fun ls hl => ?_)
    refine lv_goto (tgt := 4) hx hb dL_ones_21 (by decide) ?_
    exact ih1 (k + 1) ls (lv_sub hl [2, 1, 0] rfl) (by omega) (by omega))

set_option maxHeartbeats 4000000 in
set_option maxRecDepth 100000 in
theorem m_worth (l : Launch) (G : gG) (AA : Nat → Prop) (c0 hbd : Nat) (M : Nat → Nat) (hp : q_HP) (c : Nat) (k : Nat) (hc : c < 7) (hk : k < 24) : Met l yL_worth wsL_worth ({ frames := 4, cells := 0, slots := 0, locals := 108 } : Room) (q_PO G AA (q_OB G AA c0 hbd M hp) [.ref c0, .int (nI c), .int (nI k)]) (va_Qi (fun (r : Int32) (u : Unit) => r = nI (wr M c k) ∧ (True)) (fun (u : Unit) (t : State) => (q_OB G AA c0 hbd M hp) t.heap) AA) 0 0 AA := obM (C := RL) rfl (by decide) rfl (Nat.le_of_ble_eq_true rfl) (fun pX eX sX mX bX meX cX ls hx hb hr hts hown hlk hml hAA hO hK hNW hS hl => by
  have hl : lv_has ls 5 [(0, .ref c0), (1, .int (nI c)), (2, .int (nI k))] := hl
  refine nr_const (v := 0) hx hb dL_worth_0 rfl ?_
  refine lv_istore_n (lv' := [(3, .int (nI 0)), (0, .ref c0), (1, .int (nI c)), (2, .int (nI k))]) hx hb dL_worth_1 rfl hl (by decide) rfl (fun ls hl => ?_)
  refine nr_const (v := 0) hx hb dL_worth_2 rfl ?_
  refine lv_istore (lv' := [(4, .int (nI 0)), (3, .int (nI 0)), (0, .ref c0), (1, .int (nI c)), (2, .int (nI k))]) hx hb dL_worth_3 hl (by decide) rfl (fun ls hl => ?_)
  refine loop_o (T := Nat) (nL := 5) (fun r => r ≤ 4) (fun r => 4 - r) (fun r => [(4, .int (nI r)), (3, .int (nI (sm (fun j => M (0 + 4 * k + j) * M (120 + 4 * c + j)) r))), (0, .ref c0), (1, .int (nI c)), (2, .int (nI k))]) (fun r => q_OB G AA c0 hbd M hp) ?_ 0 (lv_sub hl [0, 1, 2, 3, 4] rfl) hO hS (by omega)
  intro r ls H locs hl hO hS hi2 ih1
  have hi2_0 := hi2
  have hi2_0 : r ≤ 4 := hi2_0
  have hO : q_OB G AA c0 hbd M hp _ := hO
  have hl : lv_has ls 5 [(4, .int (nI r)), (3, .int (nI (sm (fun j => M (0 + 4 * k + j) * M (120 + 4 * c + j)) r))), (0, .ref c0), (1, .int (nI c)), (2, .int (nI k))] := hl
  refine lv_iload hx hb dL_worth_5 (lv_at hl 0 rfl) ?_
  refine nr_const (v := 4) hx hb dL_worth_7 rfl ?_
  refine br_ige (tgt := 35) hx hb dL_worth_8 (by decide) (by omega) (by decide) (fun h3 => ?_) (fun h3 => ?_)
  · skip
    have e2 : r = 4 := (by omega)
    subst e2
    have hl : lv_has ls 5 [(4, .int (nI 4)), (3, .int (nI (sm (fun j => M (0 + 4 * k + j) * M (120 + 4 * c + j)) 4))), (0, .ref c0), (1, .int (nI c)), (2, .int (nI k))] := hl
    refine lv_iload_n hx hb dL_worth_35 rfl (lv_at hl 1 rfl) ?_
    exact obreti (post := fun (r : Int32) (u : Unit) => r = nI (wr M c k) ∧ (True)) (ob := fun (u : Unit) => q_OB G AA c0 hbd M hp) hx hb hr hlk hS (()) (hO) ⟨rfl, trivial⟩ dL_worth_36
  · skip
    refine lv_iload_n hx hb dL_worth_11 rfl (lv_at hl 1 rfl) ?_
    refine lv_aload_n hx hb dL_worth_12 rfl (lv_at hl 2 rfl) ?_
    refine lv_iload_n hx hb dL_worth_13 rfl (lv_at hl 4 rfl) ?_
    refine lv_iload hx hb dL_worth_14 (lv_at hl 0 rfl) ?_
    refine k_plot ⟨hx, hb, hml, hown, hts⟩ (cwV 2 hts gL_worth_X5_plot rfl rfl rfl (by decide +kernel) ⟨Nat.le_of_ble_eq_true rfl, Nat.le_of_ble_eq_true rfl⟩) hK hNW hAA  hO hS hl.1 (Nat.le_of_ble_eq_true rfl) dL_worth_16 ⟨Nat.zero_le _, Nat.zero_le _⟩ ?_
    refine nr_top (y := nI (M (0 + 4 * k + r))) (pl_a (by omega) (by first | omega | exact m2_lt _)) ?_
    refine lv_aload_n hx hb dL_worth_19 rfl (lv_at hl 2 rfl) ?_
    refine lv_iload_n hx hb dL_worth_20 rfl (lv_at hl 3 rfl) ?_
    refine lv_iload hx hb dL_worth_21 (lv_at hl 0 rfl) ?_
    refine k_cousin ⟨hx, hb, hml, hown, hts⟩ (cwV 2 hts gL_worth_X5_cousin rfl rfl rfl (by decide +kernel) ⟨Nat.le_of_ble_eq_true rfl, Nat.le_of_ble_eq_true rfl⟩) hK hNW hAA  hO hS hl.1 (Nat.le_of_ble_eq_true rfl) dL_worth_23 ⟨Nat.zero_le _, Nat.zero_le _⟩ (fun H locs hO hS => ?_)
    have hO : q_OB G AA c0 hbd M hp _ := hO
    refine nr_top (y := nI (M (120 + 4 * c + r))) (cz_a (by omega) (by first | omega | exact m2_lt _)) ?_
    refine nr_mul hx hb dL_worth_26 ?_
    refine nr_add hx hb dL_worth_27 ?_
    refine lv_istore_n (lv' := [(3, .int (nI ((sm (fun j => M (0 + 4 * k + j) * M (120 + 4 * c + j)) r) + ((M (0 + 4 * k + r)) * (M (120 + 4 * c + r)))))), (4, .int (nI r)), (0, .ref c0), (1, .int (nI c)), (2, .int (nI k))]) hx hb dL_worth_28 rfl hl (by decide) rfl (fun ls hl => ?_)
    refine nr_inc (d := 1) (v := r + 1) (lv' := [(4, .int (nI (r + 1))), (3, .int (nI ((sm (fun j => M (0 + 4 * k + j) * M (120 + 4 * c + j)) r) + ((M (0 + 4 * k + r)) * (M (120 + 4 * c + r)))))), (0, .ref c0), (1, .int (nI c)), (2, .int (nI k))]) hx hb dL_worth_29 hl (k := 1) rfl rfl (by decide) rfl (fun ls hl => ?_)
    refine lv_goto (tgt := 5) hx hb dL_worth_32 (by decide) ?_
    exact ih1 (r + 1) ls H locs (lv_sub hl [0, 1, 2, 3, 4] rfl) hO hS (by omega) (by omega))
