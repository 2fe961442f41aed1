set_option maxHeartbeats 4000000 in
set_option maxRecDepth 100000 in
theorem c_X5_contains (l : Launch) (A : Nat) (c : Nat) (hA : A < 128) (hc : c < 7) : Met l yX5_contains wsX5_contains ({ frames := 0, cells := 0, slots := 0, locals := 0 } : Room) (RS [.int (nI A), .int (nI c)]) (QcRead (nI (bb (bt A c = 1)))) 0 0 noF := stM (C := RX5) rfl (by decide) rfl (Nat.le_of_ble_eq_true rfl) (fun pX eX sX mX bX meX cX ls hx hb hr hts hown hlk hml hl => by
  have hl : lv_has ls 2 [(0, .int (nI A)), (1, .int (nI c))] := hl
  have hbl := bt_land_d A hA c hc
  have hb2 := bt_lt A c
  have hb3 : (A &&& 2 ^ c) < 2147483648 := Nat.lt_of_le_of_lt Nat.and_le_left (by omega)
  refine lv_iload_n hx hb dX5_contains_0 rfl (lv_at hl 0 rfl) ?_
  refine nr_const (v := 1) hx hb dX5_contains_1 rfl ?_
  refine lv_iload_n hx hb dX5_contains_2 rfl (lv_at hl 1 rfl) ?_
  refine lv_ishl hx hb dX5_contains_3 ?_
  refine nr_top (bt_shl (by omega)) ?_
  refine lv_iand hx hb dX5_contains_4 ?_
  refine nr_top (nI_land _ _) ?_
  refine join_v (T := Nat) (J := 13) (nL := 2) (fun v => [(0, .int (nI A)), (1, .int (nI c))]) (fun v => [.int (nI v)]) (fun v => v = bb (¬ ((A &&& (2 ^ c)) = 0))) ?_ (fun jj1 => ?_)
  · intro v ls hl hv2
    subst hv2
    exact rretz hx hb hr hlk (congrArg nI (bb_c (by omega))) dX5_contains_13
  · skip
    refine br_eq0 (tgt := 12) hx hb dX5_contains_5 (by decide) hb3 (fun h3 => ?_) (fun h3 => ?_)
    · skip
      refine nr_const (v := 0) hx hb dX5_contains_12 rfl ?_
      exact jj1 0 ls (lv_sub hl [0, 1] rfl) (bb_f (fun q => q h3)).symm
    · skip
      refine nr_const (v := 1) hx hb dX5_contains_8 rfl ?_
      refine lv_goto (tgt := 13) hx hb dX5_contains_9 (by decide) ?_
      exact jj1 1 ls (lv_sub hl [0, 1] rfl) (bb_t h3).symm)

set_option maxHeartbeats 4000000 in
set_option maxRecDepth 100000 in
theorem c_X5_without (l : Launch) (A : Nat) (c : Nat) (hA : A < 128) (hc : c < 7) : Met l yX5_without wsX5_without ({ frames := 0, cells := 0, slots := 0, locals := 0 } : Room) (RS [.int (nI A), .int (nI c)]) (QcRead (nI (rmv A c))) 0 0 noF := stM (C := RX5) rfl (by decide) rfl (Nat.le_of_ble_eq_true rfl) (fun pX eX sX mX bX meX cX ls hx hb hr hts hown hlk hml hl => by
  have hl : lv_has ls 2 [(0, .int (nI A)), (1, .int (nI c))] := hl
  refine lv_iload_n hx hb dX5_without_0 rfl (lv_at hl 0 rfl) ?_
  refine nr_const (v := 1) hx hb dX5_without_1 rfl ?_
  refine lv_iload_n hx hb dX5_without_2 rfl (lv_at hl 1 rfl) ?_
  refine lv_ishl hx hb dX5_without_3 ?_
  refine nr_top (bt_shl (by omega)) ?_
  refine lv_iconst (v := (-1)) hx hb dX5_without_4 (by decide +kernel) ?_
  refine lv_ixor hx hb dX5_without_5 ?_
  refine lv_iand hx hb dX5_without_6 ?_
  refine nr_top (bt_rm (by omega) (by omega)) ?_
  exact rret hx hb hr hlk (rfl) dX5_without_7)

set_option maxHeartbeats 4000000 in
set_option maxRecDepth 100000 in
theorem c_X5_isPlot (l : Launch) (x : Int32)  : Met l yX5_isPlot wsX5_isPlot ({ frames := 0, cells := 0, slots := 0, locals := 0 } : Room) (RS [.int x]) (QcRead (nI (bb (rg x 23)))) 0 0 noF := stM (C := RX5) rfl (by decide) rfl (Nat.le_of_ble_eq_true rfl) (fun pX eX sX mX bX meX cX ls hx hb hr hts hown hlk hml hl => by
  have hl : lv_has ls 1 [(0, .int x)] := hl
  refine lv_iload_n hx hb dX5_isPlot_0 rfl (lv_at hl 0 rfl) ?_
  refine join_v (T := Nat) (J := 15) (nL := 1) (fun v => [(0, .int x)]) (fun v => [.int (nI v)]) (fun v => v = bb (¬ (x < 0) ∧ (¬ ((nI 24) ≤ x)))) ?_ (fun jj1 => ?_)
  · intro v ls hl hv2
    subst hv2
    exact rretz hx hb hr hlk (congrArg nI (bb_c (rg_e (by decide)))) dX5_isPlot_15
  · skip
    refine lv_if_lt (tgt := 14) hx hb dX5_isPlot_1 (by decide) (fun h3 => ?_) (fun h3 => ?_)
    · skip
      refine nr_const (v := 0) hx hb dX5_isPlot_14 rfl ?_
      exact jj1 0 ls (lv_sub hl [0] rfl) (bb_f (fun q => q.1 h3)).symm
    · skip
      refine lv_iload_n hx hb dX5_isPlot_4 rfl (lv_at hl 0 rfl) ?_
      refine nr_bi (v := 24) hx hb dX5_isPlot_5 (by decide +kernel) ?_
      refine lv_icmp_ge (tgt := 14) hx hb dX5_isPlot_7 (by decide) (fun h4 => ?_) (fun h4 => ?_)
      · skip
        refine nr_const (v := 0) hx hb dX5_isPlot_14 rfl ?_
        exact jj1 0 ls (lv_sub hl [0] rfl) (bb_f (fun q => (fun q => q h4) q.2)).symm
      · skip
        refine nr_const (v := 1) hx hb dX5_isPlot_10 rfl ?_
        refine lv_goto (tgt := 15) hx hb dX5_isPlot_11 (by decide) ?_
        exact jj1 1 ls (lv_sub hl [0] rfl) (bb_t ⟨h3, h4⟩).symm)

set_option maxHeartbeats 4000000 in
set_option maxRecDepth 100000 in
theorem c_X5_isCrop (l : Launch) (x : Int32)  : Met l yX5_isCrop wsX5_isCrop ({ frames := 0, cells := 0, slots := 0, locals := 0 } : Room) (RS [.int x]) (QcRead (nI (bb (rg x 3)))) 0 0 noF := stM (C := RX5) rfl (by decide) rfl (Nat.le_of_ble_eq_true rfl) (fun pX eX sX mX bX meX cX ls hx hb hr hts hown hlk hml hl => by
  have hl : lv_has ls 1 [(0, .int x)] := hl
  refine lv_iload_n hx hb dX5_isCrop_0 rfl (lv_at hl 0 rfl) ?_
  refine join_v (T := Nat) (J := 14) (nL := 1) (fun v => [(0, .int x)]) (fun v => [.int (nI v)]) (fun v => v = bb (¬ (x < 0) ∧ (¬ ((nI 4) ≤ x)))) ?_ (fun jj1 => ?_)
  · intro v ls hl hv2
    subst hv2
    exact rretz hx hb hr hlk (congrArg nI (bb_c (rg_e (by decide)))) dX5_isCrop_14
  · skip
    refine lv_if_lt (tgt := 13) hx hb dX5_isCrop_1 (by decide) (fun h3 => ?_) (fun h3 => ?_)
    · skip
      refine nr_const (v := 0) hx hb dX5_isCrop_13 rfl ?_
      exact jj1 0 ls (lv_sub hl [0] rfl) (bb_f (fun q => q.1 h3)).symm
    · skip
      refine lv_iload_n hx hb dX5_isCrop_4 rfl (lv_at hl 0 rfl) ?_
      refine nr_const (v := 4) hx hb dX5_isCrop_5 rfl ?_
      refine lv_icmp_ge (tgt := 13) hx hb dX5_isCrop_6 (by decide) (fun h4 => ?_) (fun h4 => ?_)
      · skip
        refine nr_const (v := 0) hx hb dX5_isCrop_13 rfl ?_
        exact jj1 0 ls (lv_sub hl [0] rfl) (bb_f (fun q => (fun q => q h4) q.2)).symm
      · skip
        refine nr_const (v := 1) hx hb dX5_isCrop_9 rfl ?_
        refine lv_goto (tgt := 14) hx hb dX5_isCrop_10 (by decide) ?_
        exact jj1 1 ls (lv_sub hl [0] rfl) (bb_t ⟨h3, h4⟩).symm)

set_option maxHeartbeats 4000000 in
set_option maxRecDepth 100000 in
theorem c_X5_isCousin (l : Launch) (x : Int32)  : Met l yX5_isCousin wsX5_isCousin ({ frames := 0, cells := 0, slots := 0, locals := 0 } : Room) (RS [.int x]) (QcRead (nI (bb (rg x 6)))) 0 0 noF := stM (C := RX5) rfl (by decide) rfl (Nat.le_of_ble_eq_true rfl) (fun pX eX sX mX bX meX cX ls hx hb hr hts hown hlk hml hl => by
  have hl : lv_has ls 1 [(0, .int x)] := hl
  refine lv_iload_n hx hb dX5_isCousin_0 rfl (lv_at hl 0 rfl) ?_
  refine join_v (T := Nat) (J := 15) (nL := 1) (fun v => [(0, .int x)]) (fun v => [.int (nI v)]) (fun v => v = bb (¬ (x < 0) ∧ (¬ ((nI 7) ≤ x)))) ?_ (fun jj1 => ?_)
  · intro v ls hl hv2
    subst hv2
    exact rretz hx hb hr hlk (congrArg nI (bb_c (rg_e (by decide)))) dX5_isCousin_15
  · skip
    refine lv_if_lt (tgt := 14) hx hb dX5_isCousin_1 (by decide) (fun h3 => ?_) (fun h3 => ?_)
    · skip
      refine nr_const (v := 0) hx hb dX5_isCousin_14 rfl ?_
      exact jj1 0 ls (lv_sub hl [0] rfl) (bb_f (fun q => q.1 h3)).symm
    · skip
      refine lv_iload_n hx hb dX5_isCousin_4 rfl (lv_at hl 0 rfl) ?_
      refine nr_bi (v := 7) hx hb dX5_isCousin_5 (by decide +kernel) ?_
      refine lv_icmp_ge (tgt := 14) hx hb dX5_isCousin_7 (by decide) (fun h4 => ?_) (fun h4 => ?_)
      · skip
        refine nr_const (v := 0) hx hb dX5_isCousin_14 rfl ?_
        exact jj1 0 ls (lv_sub hl [0] rfl) (bb_f (fun q => (fun q => q h4) q.2)).symm
      · skip
        refine nr_const (v := 1) hx hb dX5_isCousin_10 rfl ?_
        refine lv_goto (tgt := 15) hx hb dX5_isCousin_11 (by decide) ?_
        exact jj1 1 ls (lv_sub hl [0] rfl) (bb_t ⟨h3, h4⟩).symm)

set_option maxHeartbeats 4000000 in
set_option maxRecDepth 100000 in
theorem c_X5_isDigit (l : Launch) (x : Int32)  : Met l yX5_isDigit wsX5_isDigit ({ frames := 0, cells := 0, slots := 0, locals := 0 } : Room) (RS [.int x]) (QcRead (nI (bb (rg x 9)))) 0 0 noF := stM (C := RX5) rfl (by decide) rfl (Nat.le_of_ble_eq_true rfl) (fun pX eX sX mX bX meX cX ls hx hb hr hts hown hlk hml hl => by
  have hl : lv_has ls 1 [(0, .int x)] := hl
  refine lv_iload_n hx hb dX5_isDigit_0 rfl (lv_at hl 0 rfl) ?_
  refine join_v (T := Nat) (J := 15) (nL := 1) (fun v => [(0, .int x)]) (fun v => [.int (nI v)]) (fun v => v = bb (¬ (x < 0) ∧ (¬ ((nI 9) < x)))) ?_ (fun jj1 => ?_)
  · intro v ls hl hv2
    subst hv2
    exact rretz hx hb hr hlk (congrArg nI (bb_c (rg_d (by decide)))) dX5_isDigit_15
  · skip
    refine lv_if_lt (tgt := 14) hx hb dX5_isDigit_1 (by decide) (fun h3 => ?_) (fun h3 => ?_)
    · skip
      refine nr_const (v := 0) hx hb dX5_isDigit_14 rfl ?_
      exact jj1 0 ls (lv_sub hl [0] rfl) (bb_f (fun q => q.1 h3)).symm
    · skip
      refine lv_iload_n hx hb dX5_isDigit_4 rfl (lv_at hl 0 rfl) ?_
      refine nr_bi (v := 9) hx hb dX5_isDigit_5 (by decide +kernel) ?_
      refine lv_icmp_gt (tgt := 14) hx hb dX5_isDigit_7 (by decide) (fun h4 => ?_) (fun h4 => ?_)
      · skip
        refine nr_const (v := 0) hx hb dX5_isDigit_14 rfl ?_
        exact jj1 0 ls (lv_sub hl [0] rfl) (bb_f (fun q => (fun q => q h4) q.2)).symm
      · skip
        refine nr_const (v := 1) hx hb dX5_isDigit_10 rfl ?_
        refine lv_goto (tgt := 15) hx hb dX5_isDigit_11 (by decide) ?_
        exact jj1 1 ls (lv_sub hl [0] rfl) (bb_t ⟨h3, h4⟩).symm)

set_option maxHeartbeats 4000000 in
set_option maxRecDepth 100000 in
theorem c_X5_isParty (l : Launch) (x : Int32)  : Met l yX5_isParty wsX5_isParty ({ frames := 0, cells := 0, slots := 0, locals := 0 } : Room) (RS [.int x]) (QcRead (nI (bb (¬ (x < nI 1) ∧ ¬ (nI 127 < x))))) 0 0 noF := stM (C := RX5) rfl (by decide) rfl (Nat.le_of_ble_eq_true rfl) (fun pX eX sX mX bX meX cX ls hx hb hr hts hown hlk hml hl => by
  have hl : lv_has ls 1 [(0, .int x)] := hl
  refine lv_iload_n hx hb dX5_isParty_0 rfl (lv_at hl 0 rfl) ?_
  refine nr_const (v := 1) hx hb dX5_isParty_1 rfl ?_
  refine join_v (T := Nat) (J := 16) (nL := 1) (fun v => [(0, .int x)]) (fun v => [.int (nI v)]) (fun v => v = bb (¬ (x < (nI 1)) ∧ (¬ ((nI 127) < x)))) ?_ (fun jj1 => ?_)
  · intro v ls hl hv2
    subst hv2
    exact rretz hx hb hr hlk (rfl) dX5_isParty_16
  · skip
    refine lv_icmp_lt (tgt := 15) hx hb dX5_isParty_2 (by decide) (fun h3 => ?_) (fun h3 => ?_)
    · skip
      refine nr_const (v := 0) hx hb dX5_isParty_15 rfl ?_
      exact jj1 0 ls (lv_sub hl [0] rfl) (bb_f (fun q => q.1 h3)).symm
    · skip
      refine lv_iload_n hx hb dX5_isParty_5 rfl (lv_at hl 0 rfl) ?_
      refine nr_bi (v := 127) hx hb dX5_isParty_6 (by decide +kernel) ?_
      refine lv_icmp_gt (tgt := 15) hx hb dX5_isParty_8 (by decide) (fun h4 => ?_) (fun h4 => ?_)
      · skip
        refine nr_const (v := 0) hx hb dX5_isParty_15 rfl ?_
        exact jj1 0 ls (lv_sub hl [0] rfl) (bb_f (fun q => (fun q => q h4) q.2)).symm
      · skip
        refine nr_const (v := 1) hx hb dX5_isParty_11 rfl ?_
        refine lv_goto (tgt := 16) hx hb dX5_isParty_12 (by decide) ?_
        exact jj1 1 ls (lv_sub hl [0] rfl) (bb_t ⟨h3, h4⟩).symm)

set_option maxHeartbeats 4000000 in
set_option maxRecDepth 100000 in
theorem c_X5_isSettingValue (l : Launch) (x : Int32) (y : Int32)  : Met l yX5_isSettingValue wsX5_isSettingValue ({ frames := 0, cells := 0, slots := 0, locals := 0 } : Room) (RS [.int x, .int y]) (QcRead (nI (bb ((x = 0 ∧ rg y 1) ∨ (¬ x = 0 ∧ (¬ (y < nI 1) ∧ ¬ (nI 10 < y))))))) 0 0 noF := stM (C := RX5) rfl (by decide) rfl (Nat.le_of_ble_eq_true rfl) (fun pX eX sX mX bX meX cX ls hx hb hr hts hown hlk hml hl => by
  have hl : lv_has ls 2 [(0, .int x), (1, .int y)] := hl
  refine lv_iload_n hx hb dX5_isSettingValue_0 rfl (lv_at hl 0 rfl) ?_
  refine lv_if_ne (tgt := 19) hx hb dX5_isSettingValue_1 (by decide) (fun h1 => ?_) (fun h1 => ?_)
  · skip
    refine lv_iload_n hx hb dX5_isSettingValue_19 rfl (lv_at hl 1 rfl) ?_
    refine nr_const (v := 1) hx hb dX5_isSettingValue_20 rfl ?_
    refine join_v (T := Nat) (J := 35) (nL := 2) (fun v => [(0, .int x), (1, .int y)]) (fun v => [.int (nI v)]) (fun v => v = bb (¬ (y < (nI 1)) ∧ (¬ ((nI 10) < y)))) ?_ (fun jj2 => ?_)
    · intro v ls hl hv3
      subst hv3
      exact rretz hx hb hr hlk (congrArg nI (bb_c (set_b (by assumption)))) dX5_isSettingValue_35
    · skip
      refine lv_icmp_lt (tgt := 34) hx hb dX5_isSettingValue_21 (by decide) (fun h4 => ?_) (fun h4 => ?_)
      · skip
        refine nr_const (v := 0) hx hb dX5_isSettingValue_34 rfl ?_
        exact jj2 0 ls (lv_sub hl [0, 1] rfl) (bb_f (fun q => q.1 h4)).symm
      · skip
        refine lv_iload_n hx hb dX5_isSettingValue_24 rfl (lv_at hl 1 rfl) ?_
        refine nr_bi (v := 10) hx hb dX5_isSettingValue_25 (by decide +kernel) ?_
        refine lv_icmp_gt (tgt := 34) hx hb dX5_isSettingValue_27 (by decide) (fun h5 => ?_) (fun h5 => ?_)
        · skip
          refine nr_const (v := 0) hx hb dX5_isSettingValue_34 rfl ?_
          exact jj2 0 ls (lv_sub hl [0, 1] rfl) (bb_f (fun q => (fun q => q h5) q.2)).symm
        · skip
          refine nr_const (v := 1) hx hb dX5_isSettingValue_30 rfl ?_
          refine lv_goto (tgt := 35) hx hb dX5_isSettingValue_31 (by decide) ?_
          exact jj2 1 ls (lv_sub hl [0, 1] rfl) (bb_t ⟨h4, h5⟩).symm
  · skip
    refine lv_iload_n hx hb dX5_isSettingValue_4 rfl (lv_at hl 1 rfl) ?_
    refine join_v (T := Nat) (J := 18) (nL := 2) (fun v => [(0, .int x), (1, .int y)]) (fun v => [.int (nI v)]) (fun v => v = bb ((y = 0) ∨ (y = (nI 1)))) ?_ (fun jj6 => ?_)
    · intro v ls hl hv7
      subst hv7
      exact rretz hx hb hr hlk (congrArg nI (bb_c (set_a (by assumption)))) dX5_isSettingValue_18
    · skip
      refine lv_if_eq (tgt := 13) hx hb dX5_isSettingValue_5 (by decide) (fun h8 => ?_) (fun h8 => ?_)
      · skip
        refine nr_const (v := 1) hx hb dX5_isSettingValue_13 rfl ?_
        refine lv_goto (tgt := 18) hx hb dX5_isSettingValue_14 (by decide) ?_
        exact jj6 1 ls (lv_sub hl [0, 1] rfl) (bb_t (Or.inl h8)).symm
      · skip
        refine lv_iload_n hx hb dX5_isSettingValue_8 rfl (lv_at hl 1 rfl) ?_
        refine nr_const (v := 1) hx hb dX5_isSettingValue_9 rfl ?_
        refine lv_icmp_ne (tgt := 17) hx hb dX5_isSettingValue_10 (by decide) (fun h9 => ?_) (fun h9 => ?_)
        · skip
          refine nr_const (v := 0) hx hb dX5_isSettingValue_17 rfl ?_
          exact jj6 0 ls (lv_sub hl [0, 1] rfl) (bb_f (fun q => q.elim h8 h9)).symm
        · skip
          refine nr_const (v := 1) hx hb dX5_isSettingValue_13 rfl ?_
          refine lv_goto (tgt := 18) hx hb dX5_isSettingValue_14 (by decide) ?_
          exact jj6 1 ls (lv_sub hl [0, 1] rfl) (bb_t (Or.inr h9)).symm)

set_option maxHeartbeats 4000000 in
set_option maxRecDepth 100000 in
theorem c_X5_hundredths (l : Launch) (a : Nat) (b : Nat) (ha : a ≤ 7776) (hb9 : b ≤ 7776) : Met l yX5_hundredths wsX5_hundredths ({ frames := 0, cells := 0, slots := 0, locals := 0 } : Room) (RS [.int (nI a), .int (nI b)]) (QcRead (nI (if b = 0 then 0 else a * 100 / b))) 0 0 noF := stM (C := RX5) rfl (by decide) rfl (Nat.le_of_ble_eq_true rfl) (fun pX eX sX mX bX meX cX ls hx hb hr hts hown hlk hml hl => by
  have hl : lv_has ls 2 [(0, .int (nI a)), (1, .int (nI b))] := hl
  refine lv_iload_n hx hb dX5_hundredths_0 rfl (lv_at hl 1 rfl) ?_
  refine join_v (T := Nat) (J := 14) (nL := 2) (fun v => [(0, .int (nI a)), (1, .int (nI b))]) (fun v => [.int (nI v)]) (fun v => v = (if b = 0 then 0 else ((a * 100) / b))) ?_ (fun jj1 => ?_)
  · intro v ls hl hv2
    subst hv2
    exact rret hx hb hr hlk (rfl) dX5_hundredths_14
  · skip
    refine br_ne0 (tgt := 8) hx hb dX5_hundredths_1 (by decide) (by omega) (fun h3 => ?_) (fun h3 => ?_)
    · skip
      refine lv_iload_n hx hb dX5_hundredths_8 rfl (lv_at hl 0 rfl) ?_
      refine nr_bi (v := 100) hx hb dX5_hundredths_9 (by decide +kernel) ?_
      refine nr_mul hx hb dX5_hundredths_11 ?_
      refine lv_iload_n hx hb dX5_hundredths_12 rfl (lv_at hl 1 rfl) ?_
      refine nr_div hx hb dX5_hundredths_13 (by omega) (by omega) (by omega) ?_
      exact jj1 ((a * 100) / b) ls (lv_sub hl [0, 1] rfl) (by simp only [if_neg h3])
    · skip
      refine nr_const (v := 0) hx hb dX5_hundredths_4 rfl ?_
      refine lv_goto (tgt := 14) hx hb dX5_hundredths_5 (by decide) ?_
      exact jj1 0 ls (lv_sub hl [0, 1] rfl) (by simp only [if_pos h3]))

set_option maxHeartbeats 4000000 in
set_option maxRecDepth 100000 in
theorem c_X0_hold (l : Launch) (G : gG) (d0 : Nat) (d1 : Nat) (t : Nat) (u : Nat) (lc : Nat) (w0 : Nat) (d2 : Nat) (hd : Nat) (ps : Nat) (DO : Nat → Nat) (DB : Nat → Nat) (w3 : Nat) (w5 : Nat) (w6 : Nat) (fs : List Value) (M : Nat → Nat) (c : Nat) (q : Nat) (hf2 : fs[2]? = some (.ref w3)) (hf4 : fs[4]? = some (.ref w5)) (hf5 : fs[5]? = some (.ref w6)) (sz : Nat) : Met l yX0_hold wsX0_hold ({ frames := 0, cells := 0, slots := 0, locals := 0 } : Room) (WRn G [(d0, .inr (0, [.ref d1, .int (nI t), .int (nI u), .int (nI lc), .ref w0, .ref d2, .int (nI hd), .int (nI ps)])), (d1, .inl (G.2 0, 24, .inl (nA DO))), (d2, .inl (G.2 0, 7, .inl (nA DB))), (w0, .inr (1, fs)), (w3, .inl (G.2 0, 49, .inl (nA (cut 49 148 M)))), (w5, .inl (G.2 0, 2, .inl (nA (cut 2 197 M)))), (w6, .inl (G.2 0, 168, .inl (nA (vv M))))] sz [.ref d0, .int (nI c), .int (nI q)]) (va_Qv (fun _ : Unit => True) (WB G (va_A [(d0, .inr (0, [.ref d1, .int (nI t), .int (nI u), .int (nI lc), .ref w0, .ref d2, .int (nI hd), .int (nI ps)])), (d1, .inl (G.2 0, 24, .inl (nA DO))), (d2, .inl (G.2 0, 7, .inl (nA DB))), (w0, .inr (1, fs)), (w3, .inl (G.2 0, 49, .inl (nA (cut 49 148 M)))), (w5, .inl (G.2 0, 2, .inl (nA (cut 2 197 M)))), (w6, .inl (G.2 0, 168, .inl (nA (vv M))))] sz) (fun _ : Unit => [(d0, .inr (0, [.ref d1, .int (nI t), .int (nI u), .int (nI lc), .ref w0, .ref d2, .int (nI c), .int (nI q)])), (d1, .inl (G.2 0, 24, .inl (nA DO))), (d2, .inl (G.2 0, 7, .inl (nA DB))), (w0, .inr (1, fs)), (w3, .inl (G.2 0, 49, .inl (nA (cut 49 148 M)))), (w5, .inl (G.2 0, 2, .inl (nA (cut 2 197 M)))), (w6, .inl (G.2 0, 168, .inl (nA (vv M))))])) (va_A [(d0, .inr (0, [.ref d1, .int (nI t), .int (nI u), .int (nI lc), .ref w0, .ref d2, .int (nI hd), .int (nI ps)])), (d1, .inl (G.2 0, 24, .inl (nA DO))), (d2, .inl (G.2 0, 7, .inl (nA DB))), (w0, .inr (1, fs)), (w3, .inl (G.2 0, 49, .inl (nA (cut 49 148 M)))), (w5, .inl (G.2 0, 2, .inl (nA (cut 2 197 M)))), (w6, .inl (G.2 0, 168, .inl (nA (vv M))))] sz)) 0 0 (va_A [(d0, .inr (0, [.ref d1, .int (nI t), .int (nI u), .int (nI lc), .ref w0, .ref d2, .int (nI hd), .int (nI ps)])), (d1, .inl (G.2 0, 24, .inl (nA DO))), (d2, .inl (G.2 0, 7, .inl (nA DB))), (w0, .inr (1, fs)), (w3, .inl (G.2 0, 49, .inl (nA (cut 49 148 M)))), (w5, .inl (G.2 0, 2, .inl (nA (cut 2 197 M)))), (w6, .inl (G.2 0, 168, .inl (nA (vv M))))] sz) := wrMn (Qf := fun AA => va_Qv (fun _ : Unit => True) (WB G AA (fun _ : Unit => [(d0, .inr (0, [.ref d1, .int (nI t), .int (nI u), .int (nI lc), .ref w0, .ref d2, .int (nI c), .int (nI q)])), (d1, .inl (G.2 0, 24, .inl (nA DO))), (d2, .inl (G.2 0, 7, .inl (nA DB))), (w0, .inr (1, fs)), (w3, .inl (G.2 0, 49, .inl (nA (cut 49 148 M)))), (w5, .inl (G.2 0, 2, .inl (nA (cut 2 197 M)))), (w6, .inl (G.2 0, 168, .inl (nA (vv M))))])) AA) (C := RX0) rfl (by decide) rfl (Nat.le_of_ble_eq_true rfl) (fun pX eX sX mX bX meX cX ls AA hx hb hr hts hown hlk hml hin hP hK hNW hD hAA hS hl => by
  have hl : lv_has ls 3 [(0, .ref d0), (1, .int (nI c)), (2, .int (nI q))] := hl
  have hF0 : ∀ w ∈ wsX00, w ∈ wsX0_hold := fun _ h => (List.mem_cons_of_mem _ (List.mem_append_right _ h))
  refine lv_aload_n hx hb dX0_hold_0 rfl (lv_at hl 0 rfl) ?_
  refine lv_iload_n hx hb dX0_hold_1 rfl (lv_at hl 1 rfl) ?_
  refine va_put (D := G.1) (ci := 0) (v := .int (nI c)) (ty := .int) (C := RX0) (T := TX0) (N := 8) hx hb hts hF0 tyX0 tyX0_ok nmX0 hown hK hP hD hS 0 rfl rfl 6 (by decide) (hts (.fieldLink RX0 45 "CousinShares$Division" "holder" "I") (List.mem_of_getElem? (i := 1) rfl)) (fun _ h9 => h9) rfl (by decide +kernel) rfl rfl (Nat.le_of_ble_eq_true rfl) dX0_hold_2 (fun H locs hP hD hS => ?_)
  have hP : va_P G.1 vwCl [(d0, .inr (0, [.ref d1, .int (nI t), .int (nI u), .int (nI lc), .ref w0, .ref d2, .int (nI c), .int (nI ps)])), (d1, .inl (G.2 0, 24, .inl (nA DO))), (d2, .inl (G.2 0, 7, .inl (nA DB))), (w0, .inr (1, fs)), (w3, .inl (G.2 0, 49, .inl (nA (cut 49 148 M)))), (w5, .inl (G.2 0, 2, .inl (nA (cut 2 197 M)))), (w6, .inl (G.2 0, 168, .inl (nA (vv M))))] _ := hP
  have hD : va_D AA [(d0, .inr (0, [.ref d1, .int (nI t), .int (nI u), .int (nI lc), .ref w0, .ref d2, .int (nI c), .int (nI ps)])), (d1, .inl (G.2 0, 24, .inl (nA DO))), (d2, .inl (G.2 0, 7, .inl (nA DB))), (w0, .inr (1, fs)), (w3, .inl (G.2 0, 49, .inl (nA (cut 49 148 M)))), (w5, .inl (G.2 0, 2, .inl (nA (cut 2 197 M)))), (w6, .inl (G.2 0, 168, .inl (nA (vv M))))] := hD
  refine lv_aload_n hx hb dX0_hold_5 rfl (lv_at hl 0 rfl) ?_
  refine lv_iload_n hx hb dX0_hold_6 rfl (lv_at hl 2 rfl) ?_
  refine va_put (D := G.1) (ci := 0) (v := .int (nI q)) (ty := .int) (C := RX0) (T := TX0) (N := 8) hx hb hts hF0 tyX0 tyX0_ok nmX0 hown hK hP hD hS 0 rfl rfl 7 (by decide) (hts (.fieldLink RX0 42 "CousinShares$Division" "pieceSize" "I") (List.mem_of_getElem? (i := 2) rfl)) (fun _ h9 => h9) rfl (by decide +kernel) rfl rfl (Nat.le_of_ble_eq_true rfl) dX0_hold_7 (fun H locs hP hD hS => ?_)
  have hP : va_P G.1 vwCl [(d0, .inr (0, [.ref d1, .int (nI t), .int (nI u), .int (nI lc), .ref w0, .ref d2, .int (nI c), .int (nI q)])), (d1, .inl (G.2 0, 24, .inl (nA DO))), (d2, .inl (G.2 0, 7, .inl (nA DB))), (w0, .inr (1, fs)), (w3, .inl (G.2 0, 49, .inl (nA (cut 49 148 M)))), (w5, .inl (G.2 0, 2, .inl (nA (cut 2 197 M)))), (w6, .inl (G.2 0, 168, .inl (nA (vv M))))] _ := hP
  have hD : va_D AA [(d0, .inr (0, [.ref d1, .int (nI t), .int (nI u), .int (nI lc), .ref w0, .ref d2, .int (nI c), .int (nI q)])), (d1, .inl (G.2 0, 24, .inl (nA DO))), (d2, .inl (G.2 0, 7, .inl (nA DB))), (w0, .inr (1, fs)), (w3, .inl (G.2 0, 49, .inl (nA (cut 49 148 M)))), (w5, .inl (G.2 0, 2, .inl (nA (cut 2 197 M)))), (w6, .inl (G.2 0, 168, .inl (nA (vv M))))] := hD
  exact wretv hx hb hr hlk hK hS (()) hP hD (trivial) dX0_hold_10)

set_option maxHeartbeats 4000000 in
set_option maxRecDepth 100000 in
theorem c_X0_fairPiece (l : Launch) (G : gG) (d0 : Nat) (d1 : Nat) (t : Nat) (u : Nat) (lc : Nat) (w0 : Nat) (d2 : Nat) (hd : Nat) (ps : Nat) (DO : Nat → Nat) (DB : Nat → Nat) (w3 : Nat) (w5 : Nat) (w6 : Nat) (fs : List Value) (M : Nat → Nat) (c : Nat) (n : Nat) (a : Nat) (hf2 : fs[2]? = some (.ref w3)) (hf4 : fs[4]? = some (.ref w5)) (hf5 : fs[5]? = some (.ref w6)) (h0k : ok M) (hc : c < 7) (hn : 1 ≤ n) (hn7 : n ≤ 7) (ha : a ≤ 24) : Met l yX0_fairPiece wsX0_fairPiece ({ frames := 1, cells := 0, slots := 0, locals := 24 } : Room) (RDn G [(d0, .inr (0, [.ref d1, .int (nI t), .int (nI u), .int (nI lc), .ref w0, .ref d2, .int (nI hd), .int (nI ps)])), (d1, .inl (G.2 0, 24, .inl (nA DO))), (d2, .inl (G.2 0, 7, .inl (nA DB))), (w0, .inr (1, fs)), (w3, .inl (G.2 0, 49, .inl (nA (cut 49 148 M)))), (w5, .inl (G.2 0, 2, .inl (nA (cut 2 197 M)))), (w6, .inl (G.2 0, 168, .inl (nA (vv M))))] [.ref d0, .int (nI c), .int (nI n), .int (nI a)]) (QcRead (nI (fp M c n a))) 0 0 noF := rdMn (C := RX0) rfl (by decide) rfl (Nat.le_of_ble_eq_true rfl) (fun pX eX sX mX bX meX cX ls hx hb hr hts hown hlk hml hP hK hNW hl => by
  have hl : lv_has ls 7 [(0, .ref d0), (1, .int (nI c)), (2, .int (nI n)), (3, .int (nI a))] := hl
  have hF0 : ∀ w ∈ wsX00, w ∈ wsX0_fairPiece := fun _ h => (List.mem_cons_of_mem _ (List.mem_append_left _ (List.mem_append_right _ h)))
  refine lv_aload_n hx hb dX0_fairPiece_0 rfl (lv_at hl 0 rfl) ?_
  refine va_get (D := G.1) (ci := 0) (v := .ref w0) (C := RX0) (T := TX0) (N := 8) hx hb hts hF0 hown hK hP 0 rfl rfl 4 (by decide) (hts (.fieldLink RX0 18 "CousinShares$Division" "harvest" "LCousinShares$Harvest;") (List.mem_of_getElem? (i := 1) rfl)) (fun _ h9 => h9) rfl dX0_fairPiece_1 ?_
  refine lv_iload_n hx hb dX0_fairPiece_4 rfl (lv_at hl 3 rfl) ?_
  refine lv_iload_n hx hb dX0_fairPiece_5 rfl (lv_at hl 1 rfl) ?_
  refine rcV (As := [.int (nI a), .int (nI c)]) (wl := [(w0, .inr (1, fs)), (w6, .inl (G.2 0, 168, .inl (nA (vv M))))]) ⟨hx, hb, hml, hown, hts⟩ (c_X1_worthFrom l G w0 w6 fs M a c hf5 (by omega) (by omega)) (cwV 2 hts gX0_fairPiece_X1_worthFrom rfl rfl rfl (by decide +kernel) ⟨Nat.le_of_ble_eq_true rfl, Nat.le_of_ble_eq_true rfl⟩) hK (hP.sub [3, 6] rfl) 1 0 rfl rfl rfl hl.1 rfl (Nat.le_of_ble_eq_true rfl) dX0_fairPiece_6 ⟨Nat.zero_le _, Nat.zero_le _⟩ ?_
  refine lv_istore (lv' := [(4, .int (nI (wf M c a))), (0, .ref d0), (1, .int (nI c)), (2, .int (nI n)), (3, .int (nI a))]) hx hb dX0_fairPiece_9 hl (by decide) rfl (fun ls hl => ?_)
  refine nr_const (v := 0) hx hb dX0_fairPiece_11 rfl ?_
  refine lv_istore (lv' := [(5, .int (nI 0)), (4, .int (nI (wf M c a))), (0, .ref d0), (1, .int (nI c)), (2, .int (nI n)), (3, .int (nI a))]) hx hb dX0_fairPiece_12 hl (by decide) rfl (fun ls hl => ?_)
  refine nr_const (v := 0) hx hb dX0_fairPiece_14 rfl ?_
  refine lv_istore (lv' := [(6, .int (nI 0)), (5, .int (nI 0)), (4, .int (nI (wf M c a))), (0, .ref d0), (1, .int (nI c)), (2, .int (nI n)), (3, .int (nI a))]) hx hb dX0_fairPiece_15 hl (by decide) rfl (fun ls hl => ?_)
  refine loop_r (T := Nat) (nL := 7) (fun i => i ≤ 24 - a ∧ fpF M c n a (24 - a - i) i = fp M c n a) (fun i => 24 - a - i) (fun i => [(0, .ref d0), (1, .int (nI c)), (2, .int (nI n)), (3, .int (nI a)), (4, .int (nI (wf M c a))), (5, .int (nI (sr (wr M c) a i))), (6, .int (nI i))]) ?_ 0 (lv_sub hl [3, 4, 5, 6, 2, 1, 0] rfl) ⟨Nat.zero_le _, rfl⟩
  intro i ls hl hi2 ih1
  obtain ⟨hi2_0, hi2_1⟩ := hi2
  have hi2_0 : i ≤ 24 - a := hi2_0
  have hi2_1 : fpF M c n a (24 - a - i) i = fp M c n a := hi2_1
  have hl : lv_has ls 7 [(0, .ref d0), (1, .int (nI c)), (2, .int (nI n)), (3, .int (nI a)), (4, .int (nI (wf M c a))), (5, .int (nI (sr (wr M c) a i))), (6, .int (nI i))] := hl
  have hsr := sr_le (n := i) (a := a) h0k hc (by omega)
  have hwf : wf M c a ≤ 7776 := sr_le (n := 24 - a) (a := a) h0k hc (by omega)
  have hml2 : sr (wr M c) a i * n ≤ 7776 * 7 := Nat.mul_le_mul hsr hn7
  refine lv_iload_n hx hb dX0_fairPiece_17 rfl (lv_at hl 3 rfl) ?_
  refine lv_iload hx hb dX0_fairPiece_18 (lv_at hl 6 rfl) ?_
  refine nr_add hx hb dX0_fairPiece_20 ?_
  refine nr_bi (v := 24) hx hb dX0_fairPiece_21 (by decide +kernel) ?_
  refine br_ige (tgt := 58) hx hb dX0_fairPiece_23 (by decide) (by omega) (by decide) (fun h3 => ?_) (fun h3 => ?_)
  · skip
    refine lv_iload hx hb dX0_fairPiece_58 (lv_at hl 6 rfl) ?_
    exact rret hx hb hr hlk (by rw [← hi2_1]; first | rw [fpF_end (by assumption)] | (rw [show 24 - a - i = 0 by omega]; rfl)) dX0_fairPiece_60
  · skip
    refine lv_iload hx hb dX0_fairPiece_26 (lv_at hl 5 rfl) ?_
    refine lv_iload_n hx hb dX0_fairPiece_28 rfl (lv_at hl 2 rfl) ?_
    refine nr_mul hx hb dX0_fairPiece_29 ?_
    refine lv_iload hx hb dX0_fairPiece_30 (lv_at hl 4 rfl) ?_
    refine br_ige (tgt := 58) hx hb dX0_fairPiece_32 (by decide) (by omega) (by omega) (fun h4 => ?_) (fun h4 => ?_)
    · skip
      refine lv_iload hx hb dX0_fairPiece_58 (lv_at hl 6 rfl) ?_
      exact rret hx hb hr hlk (by rw [← hi2_1]; first | rw [fpF_end (by assumption)] | (rw [show 24 - a - i = 0 by omega]; rfl)) dX0_fairPiece_60
    · skip
      refine lv_iload hx hb dX0_fairPiece_35 (lv_at hl 5 rfl) ?_
      refine lv_aload_n hx hb dX0_fairPiece_37 rfl (lv_at hl 0 rfl) ?_
      refine va_get (D := G.1) (ci := 0) (v := .ref w0) (C := RX0) (T := TX0) (N := 8) hx hb hts hF0 hown hK hP 0 rfl rfl 4 (by decide) (hts (.fieldLink RX0 18 "CousinShares$Division" "harvest" "LCousinShares$Harvest;") (List.mem_of_getElem? (i := 1) rfl)) (fun _ h9 => h9) rfl dX0_fairPiece_38 ?_
      refine lv_iload_n hx hb dX0_fairPiece_41 rfl (lv_at hl 3 rfl) ?_
      refine lv_iload hx hb dX0_fairPiece_42 (lv_at hl 6 rfl) ?_
      refine nr_add hx hb dX0_fairPiece_44 ?_
      refine lv_iload_n hx hb dX0_fairPiece_45 rfl (lv_at hl 1 rfl) ?_
      refine rcV (As := [.int (nI (a + i)), .int (nI c)]) (wl := [(w0, .inr (1, fs)), (w6, .inl (G.2 0, 168, .inl (nA (vv M))))]) ⟨hx, hb, hml, hown, hts⟩ (c_X1_worthOf l G w0 w6 fs M (a + i) c hf5 (by omega) (by omega)) (cwV 2 hts gX0_fairPiece_X1_worthOf rfl rfl rfl (by decide +kernel) ⟨Nat.le_of_ble_eq_true rfl, Nat.le_of_ble_eq_true rfl⟩) hK (hP.sub [3, 6] rfl) 1 0 rfl rfl rfl hl.1 rfl (Nat.le_of_ble_eq_true rfl) dX0_fairPiece_46 ⟨Nat.zero_le _, Nat.zero_le _⟩ ?_
      refine nr_add hx hb dX0_fairPiece_49 ?_
      refine lv_istore (lv' := [(5, .int (nI ((sr (wr M c) a i) + (wr M c (a + i))))), (0, .ref d0), (1, .int (nI c)), (2, .int (nI n)), (3, .int (nI a)), (4, .int (nI (wf M c a))), (6, .int (nI i))]) hx hb dX0_fairPiece_50 hl (by decide) rfl (fun ls hl => ?_)
      refine nr_inc (d := 1) (v := i + 1) (lv' := [(6, .int (nI (i + 1))), (5, .int (nI ((sr (wr M c) a i) + (wr M c (a + i))))), (0, .ref d0), (1, .int (nI c)), (2, .int (nI n)), (3, .int (nI a)), (4, .int (nI (wf M c a)))]) hx hb dX0_fairPiece_52 hl (k := 6) rfl rfl (by decide) rfl (fun ls hl => ?_)
      refine lv_goto (tgt := 17) hx hb dX0_fairPiece_55 (by decide) ?_
      exact ih1 (i + 1) ls (lv_sub hl [2, 3, 4, 5, 6, 1, 0] rfl) ⟨by omega, (fpF_step (by omega) (by assumption)).trans hi2_1⟩ (by omega))

set_option maxHeartbeats 4000000 in
set_option maxRecDepth 100000 in
theorem c_X0_firstOf (l : Launch) (G : gG) (d0 : Nat) (d1 : Nat) (t : Nat) (u : Nat) (lc : Nat) (w0 : Nat) (d2 : Nat) (hd : Nat) (ps : Nat) (DO : Nat → Nat) (DB : Nat → Nat) (w3 : Nat) (w5 : Nat) (w6 : Nat) (fs : List Value) (M : Nat → Nat) (A : Nat) (hf2 : fs[2]? = some (.ref w3)) (hf4 : fs[4]? = some (.ref w5)) (hf5 : fs[5]? = some (.ref w6)) (hA : A < 128) (hDB : ∀ k, k < 7 → DB k < 7) : Met l yX0_firstOf wsX0_firstOf ({ frames := 1, cells := 0, slots := 0, locals := 21 } : Room) (RDn G [(d0, .inr (0, [.ref d1, .int (nI t), .int (nI u), .int (nI lc), .ref w0, .ref d2, .int (nI hd), .int (nI ps)])), (d1, .inl (G.2 0, 24, .inl (nA DO))), (d2, .inl (G.2 0, 7, .inl (nA DB))), (w0, .inr (1, fs)), (w3, .inl (G.2 0, 49, .inl (nA (cut 49 148 M)))), (w5, .inl (G.2 0, 2, .inl (nA (cut 2 197 M)))), (w6, .inl (G.2 0, 168, .inl (nA (vv M))))] [.ref d0, .int (nI A)]) (QcRead (nI (fo DB A 0 7))) 0 0 noF := rdMn (C := RX0) rfl (by decide) rfl (Nat.le_of_ble_eq_true rfl) (fun pX eX sX mX bX meX cX ls hx hb hr hts hown hlk hml hP hK hNW hl => by
  have hl : lv_has ls 3 [(0, .ref d0), (1, .int (nI A))] := hl
  have hF0 : ∀ w ∈ wsX00, w ∈ wsX0_firstOf := fun _ h => (List.mem_cons_of_mem _ (List.mem_append_right _ h))
  refine nr_const (v := 0) hx hb dX0_firstOf_0 rfl ?_
  refine lv_istore_n (lv' := [(2, .int (nI 0)), (0, .ref d0), (1, .int (nI A))]) hx hb dX0_firstOf_1 rfl hl (by decide) rfl (fun ls hl => ?_)
  refine loop_r (T := Nat) (nL := 3) (fun i => i ≤ 7 ∧ fo DB A i (7 - i) = fo DB A 0 7) (fun i => 7 - i) (fun i => [(0, .ref d0), (1, .int (nI A)), (2, .int (nI i))]) ?_ 0 (lv_sub hl [1, 2, 0] rfl) ⟨by decide, rfl⟩
  intro i ls hl hi2 ih1
  obtain ⟨hi2_0, hi2_1⟩ := hi2
  have hi2_0 : i ≤ 7 := hi2_0
  have hi2_1 : fo DB A i (7 - i) = fo DB A 0 7 := hi2_1
  have hl : lv_has ls 3 [(0, .ref d0), (1, .int (nI A)), (2, .int (nI i))] := hl
  refine lv_iload_n hx hb dX0_firstOf_2 rfl (lv_at hl 2 rfl) ?_
  refine nr_bi (v := 7) hx hb dX0_firstOf_3 (by decide +kernel) ?_
  refine br_ige (tgt := 34) hx hb dX0_firstOf_5 (by decide) (by omega) (by decide) (fun h3 => ?_) (fun h3 => ?_)
  · skip
    refine nr_bi (v := 7) hx hb dX0_firstOf_34 (by decide +kernel) ?_
    exact rret hx hb hr hlk (by rw [← hi2_1, show 7 - i = 0 by omega]; rfl) dX0_firstOf_36
  · skip
    refine lv_iload_n hx hb dX0_firstOf_8 rfl (lv_at hl 1 rfl) ?_
    refine lv_aload_n hx hb dX0_firstOf_9 rfl (lv_at hl 0 rfl) ?_
    refine va_get (D := G.1) (ci := 0) (v := .ref d2) (C := RX0) (T := TX0) (N := 8) hx hb hts hF0 hown hK hP 0 rfl rfl 5 (by decide) (hts (.fieldLink RX0 15 "CousinShares$Division" "byOrder" "[I") (List.mem_of_getElem? (i := 1) rfl)) (fun _ h9 => h9) rfl dX0_firstOf_10 ?_
    refine lv_iload_n hx hb dX0_firstOf_13 rfl (lv_at hl 2 rfl) ?_
    refine nr_ald hx hb hK hP 2 rfl (by omega) (by decide) dX0_firstOf_14 ?_
    refine rcN (As := [.int (nI A), .int (nI (DB i))]) ⟨hx, hb, hml, hown, hts⟩ (c_X5_contains l A (DB i) (by omega) (hDB i (by omega))) ⟨va_cnB 2 hts gX0_firstOf_X5_contains_n67 rfl rfl rfl hNW.1 (hts (.initialized RX5) (List.mem_of_getElem? (i := 3) rfl)) (by decide +kernel) ⟨Nat.le_of_ble_eq_true rfl, Nat.le_of_ble_eq_true rfl⟩, (hts (.static yX5_contains) (List.mem_of_getElem? (i := 2) rfl)), trivial⟩ rfl hl.1 rfl (Nat.le_of_ble_eq_true rfl) dX0_firstOf_15 ⟨Nat.zero_le _, Nat.zero_le _⟩ ?_
    refine br_eqb (tgt := 28) hx hb dX0_firstOf_18 (by decide) (fun h4 => ?_) (fun h4 => ?_)
    · skip
      refine nr_inc (d := 1) (v := i + 1) (lv' := [(2, .int (nI (i + 1))), (0, .ref d0), (1, .int (nI A))]) hx hb dX0_firstOf_28 hl (k := 2) rfl rfl (by decide) rfl (fun ls hl => ?_)
      refine lv_goto (tgt := 2) hx hb dX0_firstOf_31 (by decide) ?_
      exact ih1 (i + 1) ls (lv_sub hl [1, 2, 0] rfl) ⟨by omega, (fo_n (by omega) (by assumption)).trans hi2_1⟩ (by omega)
    · skip
      refine lv_aload_n hx hb dX0_firstOf_21 rfl (lv_at hl 0 rfl) ?_
      refine va_get (D := G.1) (ci := 0) (v := .ref d2) (C := RX0) (T := TX0) (N := 8) hx hb hts hF0 hown hK hP 0 rfl rfl 5 (by decide) (hts (.fieldLink RX0 15 "CousinShares$Division" "byOrder" "[I") (List.mem_of_getElem? (i := 1) rfl)) (fun _ h9 => h9) rfl dX0_firstOf_22 ?_
      refine lv_iload_n hx hb dX0_firstOf_25 rfl (lv_at hl 2 rfl) ?_
      refine nr_ald hx hb hK hP 2 rfl (by omega) (by decide) dX0_firstOf_26 ?_
      exact rret hx hb hr hlk (by rw [← hi2_1, fo_y (by omega) (by assumption)]) dX0_firstOf_27)

set_option maxHeartbeats 4000000 in
set_option maxRecDepth 100000 in
theorem c_X0_handOut (l : Launch) (G : gG) (d0 : Nat) (d1 : Nat) (t : Nat) (u : Nat) (lc : Nat) (w0 : Nat) (d2 : Nat) (hd : Nat) (ps : Nat) (DO : Nat → Nat) (DB : Nat → Nat) (w3 : Nat) (w5 : Nat) (w6 : Nat) (fs : List Value) (M : Nat → Nat) (a : Nat) (b : Nat) (c : Nat) (hf2 : fs[2]? = some (.ref w3)) (hf4 : fs[4]? = some (.ref w5)) (hf5 : fs[5]? = some (.ref w6)) (hab : a ≤ b) (hb24 : b ≤ 24) (sz : Nat) : Met l yX0_handOut wsX0_handOut ({ frames := 0, cells := 0, slots := 0, locals := 0 } : Room) (WRn G [(d0, .inr (0, [.ref d1, .int (nI t), .int (nI u), .int (nI lc), .ref w0, .ref d2, .int (nI hd), .int (nI ps)])), (d1, .inl (G.2 0, 24, .inl (nA DO))), (d2, .inl (G.2 0, 7, .inl (nA DB))), (w0, .inr (1, fs)), (w3, .inl (G.2 0, 49, .inl (nA (cut 49 148 M)))), (w5, .inl (G.2 0, 2, .inl (nA (cut 2 197 M)))), (w6, .inl (G.2 0, 168, .inl (nA (vv M))))] sz [.ref d0, .int (nI a), .int (nI b), .int (nI c)]) (va_Qv (fun _ : Unit => True) (WB G (va_A [(d0, .inr (0, [.ref d1, .int (nI t), .int (nI u), .int (nI lc), .ref w0, .ref d2, .int (nI hd), .int (nI ps)])), (d1, .inl (G.2 0, 24, .inl (nA DO))), (d2, .inl (G.2 0, 7, .inl (nA DB))), (w0, .inr (1, fs)), (w3, .inl (G.2 0, 49, .inl (nA (cut 49 148 M)))), (w5, .inl (G.2 0, 2, .inl (nA (cut 2 197 M)))), (w6, .inl (G.2 0, 168, .inl (nA (vv M))))] sz) (fun _ : Unit => [(d0, .inr (0, [.ref d1, .int (nI t), .int (nI u), .int (nI lc), .ref w0, .ref d2, .int (nI hd), .int (nI ps)])), (d1, .inl (G.2 0, 24, .inl (nA (gv DO a b c)))), (d2, .inl (G.2 0, 7, .inl (nA DB))), (w0, .inr (1, fs)), (w3, .inl (G.2 0, 49, .inl (nA (cut 49 148 M)))), (w5, .inl (G.2 0, 2, .inl (nA (cut 2 197 M)))), (w6, .inl (G.2 0, 168, .inl (nA (vv M))))])) (va_A [(d0, .inr (0, [.ref d1, .int (nI t), .int (nI u), .int (nI lc), .ref w0, .ref d2, .int (nI hd), .int (nI ps)])), (d1, .inl (G.2 0, 24, .inl (nA DO))), (d2, .inl (G.2 0, 7, .inl (nA DB))), (w0, .inr (1, fs)), (w3, .inl (G.2 0, 49, .inl (nA (cut 49 148 M)))), (w5, .inl (G.2 0, 2, .inl (nA (cut 2 197 M)))), (w6, .inl (G.2 0, 168, .inl (nA (vv M))))] sz)) 0 0 (va_A [(d0, .inr (0, [.ref d1, .int (nI t), .int (nI u), .int (nI lc), .ref w0, .ref d2, .int (nI hd), .int (nI ps)])), (d1, .inl (G.2 0, 24, .inl (nA DO))), (d2, .inl (G.2 0, 7, .inl (nA DB))), (w0, .inr (1, fs)), (w3, .inl (G.2 0, 49, .inl (nA (cut 49 148 M)))), (w5, .inl (G.2 0, 2, .inl (nA (cut 2 197 M)))), (w6, .inl (G.2 0, 168, .inl (nA (vv M))))] sz) := wrMn (Qf := fun AA => va_Qv (fun _ : Unit => True) (WB G AA (fun _ : Unit => [(d0, .inr (0, [.ref d1, .int (nI t), .int (nI u), .int (nI lc), .ref w0, .ref d2, .int (nI hd), .int (nI ps)])), (d1, .inl (G.2 0, 24, .inl (nA (gv DO a b c)))), (d2, .inl (G.2 0, 7, .inl (nA DB))), (w0, .inr (1, fs)), (w3, .inl (G.2 0, 49, .inl (nA (cut 49 148 M)))), (w5, .inl (G.2 0, 2, .inl (nA (cut 2 197 M)))), (w6, .inl (G.2 0, 168, .inl (nA (vv M))))])) AA) (C := RX0) rfl (by decide) rfl (Nat.le_of_ble_eq_true rfl) (fun pX eX sX mX bX meX cX ls AA hx hb hr hts hown hlk hml hin hP hK hNW hD hAA hS hl => by
  have hl : lv_has ls 5 [(0, .ref d0), (1, .int (nI a)), (2, .int (nI b)), (3, .int (nI c))] := hl
  have hF0 : ∀ w ∈ wsX00, w ∈ wsX0_handOut := fun _ h => (List.mem_cons_of_mem _ (List.mem_append_right _ h))
  refine lv_iload_n hx hb dX0_handOut_0 rfl (lv_at hl 1 rfl) ?_
  refine lv_istore (lv' := [(4, .int (nI a)), (0, .ref d0), (1, .int (nI a)), (2, .int (nI b)), (3, .int (nI c))]) hx hb dX0_handOut_1 hl (by decide) rfl (fun ls hl => ?_)
  rw [← gv_0 DO a c] at hP hD
  refine loop_w (T := Nat) (nL := 5) (fun i => a + i ≤ b) (fun i => b - (a + i)) (fun i => [(0, .ref d0), (1, .int (nI a)), (2, .int (nI b)), (3, .int (nI c)), (4, .int (nI (a + i)))]) (fun i => [(d0, .inr (0, [.ref d1, .int (nI t), .int (nI u), .int (nI lc), .ref w0, .ref d2, .int (nI hd), .int (nI ps)])), (d1, .inl (G.2 0, 24, .inl (nA (gv DO a (a + i) c)))), (d2, .inl (G.2 0, 7, .inl (nA DB))), (w0, .inr (1, fs)), (w3, .inl (G.2 0, 49, .inl (nA (cut 49 148 M)))), (w5, .inl (G.2 0, 2, .inl (nA (cut 2 197 M)))), (w6, .inl (G.2 0, 168, .inl (nA (vv M))))]) ?_ 0 (lv_sub hl [1, 2, 3, 4, 0] rfl) hP hD hS (by omega)
  intro i ls H locs hl hP hD hS hi2 ih1
  have hi2_0 := hi2
  have hi2_0 : a + i ≤ b := hi2_0
  have hl : lv_has ls 5 [(0, .ref d0), (1, .int (nI a)), (2, .int (nI b)), (3, .int (nI c)), (4, .int (nI (a + i)))] := hl
  have hP : va_P G.1 vwCl [(d0, .inr (0, [.ref d1, .int (nI t), .int (nI u), .int (nI lc), .ref w0, .ref d2, .int (nI hd), .int (nI ps)])), (d1, .inl (G.2 0, 24, .inl (nA (gv DO a (a + i) c)))), (d2, .inl (G.2 0, 7, .inl (nA DB))), (w0, .inr (1, fs)), (w3, .inl (G.2 0, 49, .inl (nA (cut 49 148 M)))), (w5, .inl (G.2 0, 2, .inl (nA (cut 2 197 M)))), (w6, .inl (G.2 0, 168, .inl (nA (vv M))))] _ := hP
  have hD : va_D AA [(d0, .inr (0, [.ref d1, .int (nI t), .int (nI u), .int (nI lc), .ref w0, .ref d2, .int (nI hd), .int (nI ps)])), (d1, .inl (G.2 0, 24, .inl (nA (gv DO a (a + i) c)))), (d2, .inl (G.2 0, 7, .inl (nA DB))), (w0, .inr (1, fs)), (w3, .inl (G.2 0, 49, .inl (nA (cut 49 148 M)))), (w5, .inl (G.2 0, 2, .inl (nA (cut 2 197 M)))), (w6, .inl (G.2 0, 168, .inl (nA (vv M))))] := hD
  refine lv_iload hx hb dX0_handOut_3 (lv_at hl 4 rfl) ?_
  refine lv_iload_n hx hb dX0_handOut_5 rfl (lv_at hl 2 rfl) ?_
  refine br_ige (tgt := 30) hx hb dX0_handOut_6 (by decide) (by omega) (by omega) (fun h3 => ?_) (fun h3 => ?_)
  · skip
    have e2 : a + i = b := (by omega)
    rw [e2] at hP hD
    exact wretv hx hb hr hlk hK hS (()) hP hD (trivial) dX0_handOut_30
  · skip
    refine lv_iload hx hb dX0_handOut_9 (lv_at hl 4 rfl) ?_
    refine nr_bi (v := 24) hx hb dX0_handOut_11 (by decide +kernel) ?_
    refine br_ige (tgt := 30) hx hb dX0_handOut_13 (by decide) (by omega) (by decide) (fun h4 => ?_) (fun h4 => ?_)
    · skip
      have e2 : a + i = b := (by omega)
      rw [e2] at hP hD
      exact wretv hx hb hr hlk hK hS (()) hP hD (trivial) dX0_handOut_30
    · skip
      refine lv_aload_n hx hb dX0_handOut_16 rfl (lv_at hl 0 rfl) ?_
      refine va_get (D := G.1) (ci := 0) (v := .ref d1) (C := RX0) (T := TX0) (N := 8) hx hb hts hF0 hown hK hP 0 rfl rfl 0 (by decide) (hts (.fieldLink RX0 9 "CousinShares$Division" "owners" "[I") (List.mem_of_getElem? (i := 1) rfl)) (fun _ h9 => h9) rfl dX0_handOut_17 ?_
      refine lv_iload hx hb dX0_handOut_20 (lv_at hl 4 rfl) ?_
      refine lv_iload_n hx hb dX0_handOut_22 rfl (lv_at hl 3 rfl) ?_
      refine nr_ast (ws' := [(d0, .inr (0, [.ref d1, .int (nI t), .int (nI u), .int (nI lc), .ref w0, .ref d2, .int (nI hd), .int (nI ps)])), (d1, .inl (G.2 0, 24, .inl (nA (va_up (gv DO a (a + i) c) (a + i) c)))), (d2, .inl (G.2 0, 7, .inl (nA DB))), (w0, .inr (1, fs)), (w3, .inl (G.2 0, 49, .inl (nA (cut 49 148 M)))), (w5, .inl (G.2 0, 2, .inl (nA (cut 2 197 M)))), (w6, .inl (G.2 0, 168, .inl (nA (vv M))))]) hx hb hK hP hD hS 1 rfl (by omega) (by decide) dX0_handOut_23 rfl (fun H locs hP hD hS => ?_)
      refine nr_inc (d := 1) (v := (a + i) + 1) (lv' := [(4, .int (nI ((a + i) + 1))), (0, .ref d0), (1, .int (nI a)), (2, .int (nI b)), (3, .int (nI c))]) hx hb dX0_handOut_24 hl (k := 4) rfl rfl (by decide) rfl (fun ls hl => ?_)
      refine lv_goto (tgt := 3) hx hb dX0_handOut_27 (by decide) ?_
      rw [gv_s] at hP hD
      exact ih1 (i + 1) ls H locs (lv_sub hl [1, 2, 3, 4, 0] rfl) hP hD hS (by omega) (by omega))

set_option maxHeartbeats 4000000 in
set_option maxRecDepth 100000 in
theorem c_X0_mayTrim (l : Launch) (G : gG) (d0 : Nat) (d1 : Nat) (t : Nat) (u : Nat) (lc : Nat) (w0 : Nat) (d2 : Nat) (hd : Nat) (ps : Nat) (DO : Nat → Nat) (DB : Nat → Nat) (w3 : Nat) (w5 : Nat) (w6 : Nat) (fs : List Value) (M : Nat → Nat) (c : Nat) (f : Nat) (hf2 : fs[2]? = some (.ref w3)) (hf4 : fs[4]? = some (.ref w5)) (hf5 : fs[5]? = some (.ref w6)) (h0k : ok M) (hc : c < 7) (hhd : hd < 7) (hf24 : f ≤ 24) (hps : ps ≤ 24) (sz : Nat) : Met l yX0_mayTrim wsX0_mayTrim ({ frames := 1, cells := 0, slots := 0, locals := 22 } : Room) (WRn G [(d0, .inr (0, [.ref d1, .int (nI t), .int (nI u), .int (nI lc), .ref w0, .ref d2, .int (nI hd), .int (nI ps)])), (d1, .inl (G.2 0, 24, .inl (nA DO))), (d2, .inl (G.2 0, 7, .inl (nA DB))), (w0, .inr (1, fs)), (w3, .inl (G.2 0, 49, .inl (nA (cut 49 148 M)))), (w5, .inl (G.2 0, 2, .inl (nA (cut 2 197 M)))), (w6, .inl (G.2 0, 168, .inl (nA (vv M))))] sz [.ref d0, .int (nI c), .int (nI f)]) (va_Qv (fun _ : Unit => True) (WB G (va_A [(d0, .inr (0, [.ref d1, .int (nI t), .int (nI u), .int (nI lc), .ref w0, .ref d2, .int (nI hd), .int (nI ps)])), (d1, .inl (G.2 0, 24, .inl (nA DO))), (d2, .inl (G.2 0, 7, .inl (nA DB))), (w0, .inr (1, fs)), (w3, .inl (G.2 0, 49, .inl (nA (cut 49 148 M)))), (w5, .inl (G.2 0, 2, .inl (nA (cut 2 197 M)))), (w6, .inl (G.2 0, 168, .inl (nA (vv M))))] sz) (fun _ : Unit => [(d0, .inr (0, [.ref d1, .int (nI ((rstp c hd ps t u f (M 198) (gr M c hd)).2.2.1)), .int (nI ((rstp c hd ps t u f (M 198) (gr M c hd)).2.2.2)), .int (nI lc), .ref w0, .ref d2, .int (nI ((rstp c hd ps t u f (M 198) (gr M c hd)).1)), .int (nI ((rstp c hd ps t u f (M 198) (gr M c hd)).2.1))])), (d1, .inl (G.2 0, 24, .inl (nA DO))), (d2, .inl (G.2 0, 7, .inl (nA DB))), (w0, .inr (1, fs)), (w3, .inl (G.2 0, 49, .inl (nA (cut 49 148 M)))), (w5, .inl (G.2 0, 2, .inl (nA (cut 2 197 M)))), (w6, .inl (G.2 0, 168, .inl (nA (vv M))))])) (va_A [(d0, .inr (0, [.ref d1, .int (nI t), .int (nI u), .int (nI lc), .ref w0, .ref d2, .int (nI hd), .int (nI ps)])), (d1, .inl (G.2 0, 24, .inl (nA DO))), (d2, .inl (G.2 0, 7, .inl (nA DB))), (w0, .inr (1, fs)), (w3, .inl (G.2 0, 49, .inl (nA (cut 49 148 M)))), (w5, .inl (G.2 0, 2, .inl (nA (cut 2 197 M)))), (w6, .inl (G.2 0, 168, .inl (nA (vv M))))] sz)) 0 0 (va_A [(d0, .inr (0, [.ref d1, .int (nI t), .int (nI u), .int (nI lc), .ref w0, .ref d2, .int (nI hd), .int (nI ps)])), (d1, .inl (G.2 0, 24, .inl (nA DO))), (d2, .inl (G.2 0, 7, .inl (nA DB))), (w0, .inr (1, fs)), (w3, .inl (G.2 0, 49, .inl (nA (cut 49 148 M)))), (w5, .inl (G.2 0, 2, .inl (nA (cut 2 197 M)))), (w6, .inl (G.2 0, 168, .inl (nA (vv M))))] sz) := wrMn (Qf := fun AA => va_Qv (fun _ : Unit => True) (WB G AA (fun _ : Unit => [(d0, .inr (0, [.ref d1, .int (nI ((rstp c hd ps t u f (M 198) (gr M c hd)).2.2.1)), .int (nI ((rstp c hd ps t u f (M 198) (gr M c hd)).2.2.2)), .int (nI lc), .ref w0, .ref d2, .int (nI ((rstp c hd ps t u f (M 198) (gr M c hd)).1)), .int (nI ((rstp c hd ps t u f (M 198) (gr M c hd)).2.1))])), (d1, .inl (G.2 0, 24, .inl (nA DO))), (d2, .inl (G.2 0, 7, .inl (nA DB))), (w0, .inr (1, fs)), (w3, .inl (G.2 0, 49, .inl (nA (cut 49 148 M)))), (w5, .inl (G.2 0, 2, .inl (nA (cut 2 197 M)))), (w6, .inl (G.2 0, 168, .inl (nA (vv M))))])) AA) (C := RX0) rfl (by decide) rfl (Nat.le_of_ble_eq_true rfl) (fun pX eX sX mX bX meX cX ls AA hx hb hr hts hown hlk hml hin hP hK hNW hD hAA hS hl => by
  have hl : lv_has ls 3 [(0, .ref d0), (1, .int (nI c)), (2, .int (nI f))] := hl
  have hF0 : ∀ w ∈ wsX00, w ∈ wsX0_mayTrim := fun _ h => (List.mem_cons_of_mem _ (List.mem_append_left _ (List.mem_append_right _ h)))
  have hF1 : ∀ w ∈ wsX10, w ∈ wsX0_mayTrim := fun _ h => (List.mem_cons_of_mem _ (List.mem_append_right _ h))
  have hg1 := gr_le h0k hc hhd
  have hs2 := h0k.2.2.2.2.2.2
  refine lv_iload_n hx hb dX0_mayTrim_0 rfl (lv_at hl 2 rfl) ?_
  refine lv_aload_n hx hb dX0_mayTrim_1 rfl (lv_at hl 0 rfl) ?_
  refine va_get (D := G.1) (ci := 0) (v := .int (nI ps)) (C := RX0) (T := TX0) (N := 8) hx hb hts hF0 hown hK hP 0 rfl rfl 7 (by decide) (hts (.fieldLink RX0 42 "CousinShares$Division" "pieceSize" "I") (List.mem_of_getElem? (i := 1) rfl)) (fun _ h9 => h9) rfl dX0_mayTrim_2 ?_
  refine br_ige (tgt := 27) hx hb dX0_mayTrim_5 (by decide) (by omega) (by omega) (fun h1 => ?_) (fun h1 => ?_)
  · skip
    refine lv_iload_n hx hb dX0_mayTrim_27 rfl (lv_at hl 2 rfl) ?_
    refine lv_aload_n hx hb dX0_mayTrim_28 rfl (lv_at hl 0 rfl) ?_
    refine va_get (D := G.1) (ci := 0) (v := .int (nI ps)) (C := RX0) (T := TX0) (N := 8) hx hb hts hF0 hown hK hP 0 rfl rfl 7 (by decide) (hts (.fieldLink RX0 42 "CousinShares$Division" "pieceSize" "I") (List.mem_of_getElem? (i := 1) rfl)) (fun _ h9 => h9) rfl dX0_mayTrim_29 ?_
    refine br_ine (tgt := 92) hx hb dX0_mayTrim_32 (by decide) (by omega) (by omega) (fun h2 => ?_) (fun h2 => ?_)
    · skip
      have e : rstp c hd ps t u f (M 198) (gr M c hd) = (hd, ps, t, u) := by
        unfold rstp
        rw [if_neg (by omega)]
        first | rw [if_pos (by omega)] | (rw [if_neg (by omega)]; first | rw [if_pos (by omega)] | rw [if_neg (by omega)])
      exact wretv hx hb hr hlk hK hS (()) (by show va_P G.1 vwCl [(d0, .inr (0, [.ref d1, .int (nI ((rstp c hd ps t u f (M 198) (gr M c hd)).2.2.1)), .int (nI ((rstp c hd ps t u f (M 198) (gr M c hd)).2.2.2)), .int (nI lc), .ref w0, .ref d2, .int (nI ((rstp c hd ps t u f (M 198) (gr M c hd)).1)), .int (nI ((rstp c hd ps t u f (M 198) (gr M c hd)).2.1))])), (d1, .inl (G.2 0, 24, .inl (nA DO))), (d2, .inl (G.2 0, 7, .inl (nA DB))), (w0, .inr (1, fs)), (w3, .inl (G.2 0, 49, .inl (nA (cut 49 148 M)))), (w5, .inl (G.2 0, 2, .inl (nA (cut 2 197 M)))), (w6, .inl (G.2 0, 168, .inl (nA (vv M))))] _; rw [e]; exact hP) (by show va_D _ [(d0, .inr (0, [.ref d1, .int (nI ((rstp c hd ps t u f (M 198) (gr M c hd)).2.2.1)), .int (nI ((rstp c hd ps t u f (M 198) (gr M c hd)).2.2.2)), .int (nI lc), .ref w0, .ref d2, .int (nI ((rstp c hd ps t u f (M 198) (gr M c hd)).1)), .int (nI ((rstp c hd ps t u f (M 198) (gr M c hd)).2.1))])), (d1, .inl (G.2 0, 24, .inl (nA DO))), (d2, .inl (G.2 0, 7, .inl (nA DB))), (w0, .inr (1, fs)), (w3, .inl (G.2 0, 49, .inl (nA (cut 49 148 M)))), (w5, .inl (G.2 0, 2, .inl (nA (cut 2 197 M)))), (w6, .inl (G.2 0, 168, .inl (nA (vv M))))]; rw [e]; exact hD) (trivial) dX0_mayTrim_92
    · skip
      refine lv_iload_n hx hb dX0_mayTrim_35 rfl (lv_at hl 2 rfl) ?_
      refine nr_const (v := 1) hx hb dX0_mayTrim_36 rfl ?_
      refine br_ilt (tgt := 92) hx hb dX0_mayTrim_37 (by decide) (by omega) (by decide) (fun h3 => ?_) (fun h3 => ?_)
      · skip
        have e : rstp c hd ps t u f (M 198) (gr M c hd) = (hd, ps, t, u) := by
          unfold rstp
          rw [if_neg (by omega)]
          first | rw [if_pos (by omega)] | (rw [if_neg (by omega)]; first | rw [if_pos (by omega)] | rw [if_neg (by omega)])
        exact wretv hx hb hr hlk hK hS (()) (by show va_P G.1 vwCl [(d0, .inr (0, [.ref d1, .int (nI ((rstp c hd ps t u f (M 198) (gr M c hd)).2.2.1)), .int (nI ((rstp c hd ps t u f (M 198) (gr M c hd)).2.2.2)), .int (nI lc), .ref w0, .ref d2, .int (nI ((rstp c hd ps t u f (M 198) (gr M c hd)).1)), .int (nI ((rstp c hd ps t u f (M 198) (gr M c hd)).2.1))])), (d1, .inl (G.2 0, 24, .inl (nA DO))), (d2, .inl (G.2 0, 7, .inl (nA DB))), (w0, .inr (1, fs)), (w3, .inl (G.2 0, 49, .inl (nA (cut 49 148 M)))), (w5, .inl (G.2 0, 2, .inl (nA (cut 2 197 M)))), (w6, .inl (G.2 0, 168, .inl (nA (vv M))))] _; rw [e]; exact hP) (by show va_D _ [(d0, .inr (0, [.ref d1, .int (nI ((rstp c hd ps t u f (M 198) (gr M c hd)).2.2.1)), .int (nI ((rstp c hd ps t u f (M 198) (gr M c hd)).2.2.2)), .int (nI lc), .ref w0, .ref d2, .int (nI ((rstp c hd ps t u f (M 198) (gr M c hd)).1)), .int (nI ((rstp c hd ps t u f (M 198) (gr M c hd)).2.1))])), (d1, .inl (G.2 0, 24, .inl (nA DO))), (d2, .inl (G.2 0, 7, .inl (nA DB))), (w0, .inr (1, fs)), (w3, .inl (G.2 0, 49, .inl (nA (cut 49 148 M)))), (w5, .inl (G.2 0, 2, .inl (nA (cut 2 197 M)))), (w6, .inl (G.2 0, 168, .inl (nA (vv M))))]; rw [e]; exact hD) (trivial) dX0_mayTrim_92
      · skip
        refine lv_aload_n hx hb dX0_mayTrim_40 rfl (lv_at hl 0 rfl) ?_
        refine va_get (D := G.1) (ci := 0) (v := .ref w0) (C := RX0) (T := TX0) (N := 8) hx hb hts hF0 hown hK hP 0 rfl rfl 4 (by decide) (hts (.fieldLink RX0 18 "CousinShares$Division" "harvest" "LCousinShares$Harvest;") (List.mem_of_getElem? (i := 3) rfl)) (fun _ h9 => h9) rfl dX0_mayTrim_41 ?_
        refine lv_iload_n hx hb dX0_mayTrim_44 rfl (lv_at hl 1 rfl) ?_
        refine lv_aload_n hx hb dX0_mayTrim_45 rfl (lv_at hl 0 rfl) ?_
        refine va_get (D := G.1) (ci := 0) (v := .int (nI hd)) (C := RX0) (T := TX0) (N := 8) hx hb hts hF0 hown hK hP 0 rfl rfl 6 (by decide) (hts (.fieldLink RX0 45 "CousinShares$Division" "holder" "I") (List.mem_of_getElem? (i := 4) rfl)) (fun _ h9 => h9) rfl dX0_mayTrim_46 ?_
        refine rcV (As := [.int (nI c), .int (nI hd)]) (wl := [(w0, .inr (1, fs)), (w3, .inl (G.2 0, 49, .inl (nA (cut 49 148 M))))]) ⟨hx, hb, hml, hown, hts⟩ (c_X1_grudgeOf l G w0 w3 fs M c hd hf2 (by omega) (by omega)) (cwV 2 hts gX0_mayTrim_X1_grudgeOf rfl rfl rfl (by decide +kernel) ⟨Nat.le_of_ble_eq_true rfl, Nat.le_of_ble_eq_true rfl⟩) hK (hP.sub [3, 4] rfl) 1 0 rfl rfl rfl hl.1 rfl (Nat.le_of_ble_eq_true rfl) dX0_mayTrim_49 ⟨Nat.zero_le _, Nat.zero_le _⟩ ?_
        refine lv_aload_n hx hb dX0_mayTrim_52 rfl (lv_at hl 0 rfl) ?_
        refine va_get (D := G.1) (ci := 0) (v := .ref w0) (C := RX0) (T := TX0) (N := 8) hx hb hts hF0 hown hK hP 0 rfl rfl 4 (by decide) (hts (.fieldLink RX0 18 "CousinShares$Division" "harvest" "LCousinShares$Harvest;") (List.mem_of_getElem? (i := 3) rfl)) (fun _ h9 => h9) rfl dX0_mayTrim_53 ?_
        refine va_get (D := G.1) (ci := 1) (v := .ref w5) (C := RX1) (T := TX1) (N := 9) hx hb hts hF1 hown hK hP 3 rfl rfl 4 (by decide) (hts (.fieldLink RX0 84 "CousinShares$Harvest" "settings" "[I") (List.mem_of_getElem? (i := 5) rfl)) (fun _ h9 => h9) hf4 dX0_mayTrim_56 ?_
        refine nr_const (v := 1) hx hb dX0_mayTrim_59 rfl ?_
        refine nr_ald hx hb hK hP 5 rfl (by omega) (by decide) dX0_mayTrim_60 ?_
        refine nr_top (y := nI (M 198)) (rfl) ?_
        refine br_ilt (tgt := 92) hx hb dX0_mayTrim_61 (by decide) (by omega) (by omega) (fun h4 => ?_) (fun h4 => ?_)
        · skip
          have e : rstp c hd ps t u f (M 198) (gr M c hd) = (hd, ps, t, u) := by
            unfold rstp
            rw [if_neg (by omega)]
            first | rw [if_pos (by omega)] | (rw [if_neg (by omega)]; first | rw [if_pos (by omega)] | rw [if_neg (by omega)])
          exact wretv hx hb hr hlk hK hS (()) (by show va_P G.1 vwCl [(d0, .inr (0, [.ref d1, .int (nI ((rstp c hd ps t u f (M 198) (gr M c hd)).2.2.1)), .int (nI ((rstp c hd ps t u f (M 198) (gr M c hd)).2.2.2)), .int (nI lc), .ref w0, .ref d2, .int (nI ((rstp c hd ps t u f (M 198) (gr M c hd)).1)), .int (nI ((rstp c hd ps t u f (M 198) (gr M c hd)).2.1))])), (d1, .inl (G.2 0, 24, .inl (nA DO))), (d2, .inl (G.2 0, 7, .inl (nA DB))), (w0, .inr (1, fs)), (w3, .inl (G.2 0, 49, .inl (nA (cut 49 148 M)))), (w5, .inl (G.2 0, 2, .inl (nA (cut 2 197 M)))), (w6, .inl (G.2 0, 168, .inl (nA (vv M))))] _; rw [e]; exact hP) (by show va_D _ [(d0, .inr (0, [.ref d1, .int (nI ((rstp c hd ps t u f (M 198) (gr M c hd)).2.2.1)), .int (nI ((rstp c hd ps t u f (M 198) (gr M c hd)).2.2.2)), .int (nI lc), .ref w0, .ref d2, .int (nI ((rstp c hd ps t u f (M 198) (gr M c hd)).1)), .int (nI ((rstp c hd ps t u f (M 198) (gr M c hd)).2.1))])), (d1, .inl (G.2 0, 24, .inl (nA DO))), (d2, .inl (G.2 0, 7, .inl (nA DB))), (w0, .inr (1, fs)), (w3, .inl (G.2 0, 49, .inl (nA (cut 49 148 M)))), (w5, .inl (G.2 0, 2, .inl (nA (cut 2 197 M)))), (w6, .inl (G.2 0, 168, .inl (nA (vv M))))]; rw [e]; exact hD) (trivial) dX0_mayTrim_92
        · skip
          refine lv_aload_n hx hb dX0_mayTrim_64 rfl (lv_at hl 0 rfl) ?_
          refine lv_dup hx hb dX0_mayTrim_65 rfl ?_
          refine va_get (D := G.1) (ci := 0) (v := .int (nI t)) (C := RX0) (T := TX0) (N := 8) hx hb hts hF0 hown hK hP 0 rfl rfl 1 (by decide) (hts (.fieldLink RX0 22 "CousinShares$Division" "trims" "I") (List.mem_of_getElem? (i := 2) rfl)) (fun _ h9 => h9) rfl dX0_mayTrim_66 ?_
          refine nr_const (v := 1) hx hb dX0_mayTrim_69 rfl ?_
          refine nr_add hx hb dX0_mayTrim_70 ?_
          refine va_put (D := G.1) (ci := 0) (v := .int (nI (t + 1))) (ty := .int) (C := RX0) (T := TX0) (N := 8) hx hb hts hF0 tyX0 tyX0_ok nmX0 hown hK hP hD hS 0 rfl rfl 1 (by decide) (hts (.fieldLink RX0 22 "CousinShares$Division" "trims" "I") (List.mem_of_getElem? (i := 2) rfl)) (fun _ h9 => h9) rfl (by decide +kernel) rfl rfl (Nat.le_of_ble_eq_true rfl) dX0_mayTrim_71 (fun H locs hP hD hS => ?_)
          have hP : va_P G.1 vwCl [(d0, .inr (0, [.ref d1, .int (nI (t + 1)), .int (nI u), .int (nI lc), .ref w0, .ref d2, .int (nI hd), .int (nI ps)])), (d1, .inl (G.2 0, 24, .inl (nA DO))), (d2, .inl (G.2 0, 7, .inl (nA DB))), (w0, .inr (1, fs)), (w3, .inl (G.2 0, 49, .inl (nA (cut 49 148 M)))), (w5, .inl (G.2 0, 2, .inl (nA (cut 2 197 M)))), (w6, .inl (G.2 0, 168, .inl (nA (vv M))))] _ := hP
          have hD : va_D AA [(d0, .inr (0, [.ref d1, .int (nI (t + 1)), .int (nI u), .int (nI lc), .ref w0, .ref d2, .int (nI hd), .int (nI ps)])), (d1, .inl (G.2 0, 24, .inl (nA DO))), (d2, .inl (G.2 0, 7, .inl (nA DB))), (w0, .inr (1, fs)), (w3, .inl (G.2 0, 49, .inl (nA (cut 49 148 M)))), (w5, .inl (G.2 0, 2, .inl (nA (cut 2 197 M)))), (w6, .inl (G.2 0, 168, .inl (nA (vv M))))] := hD
          refine lv_aload_n hx hb dX0_mayTrim_74 rfl (lv_at hl 0 rfl) ?_
          refine lv_dup hx hb dX0_mayTrim_75 rfl ?_
          refine va_get (D := G.1) (ci := 0) (v := .int (nI u)) (C := RX0) (T := TX0) (N := 8) hx hb hts hF0 hown hK hP 0 rfl rfl 2 (by decide) (hts (.fieldLink RX0 26 "CousinShares$Division" "grudgeTrims" "I") (List.mem_of_getElem? (i := 6) rfl)) (fun _ h9 => h9) rfl dX0_mayTrim_76 ?_
          refine nr_const (v := 1) hx hb dX0_mayTrim_79 rfl ?_
          refine nr_add hx hb dX0_mayTrim_80 ?_
          refine va_put (D := G.1) (ci := 0) (v := .int (nI (u + 1))) (ty := .int) (C := RX0) (T := TX0) (N := 8) hx hb hts hF0 tyX0 tyX0_ok nmX0 hown hK hP hD hS 0 rfl rfl 2 (by decide) (hts (.fieldLink RX0 26 "CousinShares$Division" "grudgeTrims" "I") (List.mem_of_getElem? (i := 6) rfl)) (fun _ h9 => h9) rfl (by decide +kernel) rfl rfl (Nat.le_of_ble_eq_true rfl) dX0_mayTrim_81 (fun H locs hP hD hS => ?_)
          have hP : va_P G.1 vwCl [(d0, .inr (0, [.ref d1, .int (nI (t + 1)), .int (nI (u + 1)), .int (nI lc), .ref w0, .ref d2, .int (nI hd), .int (nI ps)])), (d1, .inl (G.2 0, 24, .inl (nA DO))), (d2, .inl (G.2 0, 7, .inl (nA DB))), (w0, .inr (1, fs)), (w3, .inl (G.2 0, 49, .inl (nA (cut 49 148 M)))), (w5, .inl (G.2 0, 2, .inl (nA (cut 2 197 M)))), (w6, .inl (G.2 0, 168, .inl (nA (vv M))))] _ := hP
          have hD : va_D AA [(d0, .inr (0, [.ref d1, .int (nI (t + 1)), .int (nI (u + 1)), .int (nI lc), .ref w0, .ref d2, .int (nI hd), .int (nI ps)])), (d1, .inl (G.2 0, 24, .inl (nA DO))), (d2, .inl (G.2 0, 7, .inl (nA DB))), (w0, .inr (1, fs)), (w3, .inl (G.2 0, 49, .inl (nA (cut 49 148 M)))), (w5, .inl (G.2 0, 2, .inl (nA (cut 2 197 M)))), (w6, .inl (G.2 0, 168, .inl (nA (vv M))))] := hD
          refine lv_aload_n hx hb dX0_mayTrim_84 rfl (lv_at hl 0 rfl) ?_
          refine lv_iload_n hx hb dX0_mayTrim_85 rfl (lv_at hl 1 rfl) ?_
          refine lv_iload_n hx hb dX0_mayTrim_86 rfl (lv_at hl 2 rfl) ?_
          refine nr_const (v := 1) hx hb dX0_mayTrim_87 rfl ?_
          refine nr_sub hx hb dX0_mayTrim_88 (by omega) ?_
          refine wcVvn (As := [.int (nI c), .int (nI (f - 1))]) (ws := [(d0, .inr (0, [.ref d1, .int (nI (t + 1)), .int (nI (u + 1)), .int (nI lc), .ref w0, .ref d2, .int (nI hd), .int (nI ps)])), (d1, .inl (G.2 0, 24, .inl (nA DO))), (d2, .inl (G.2 0, 7, .inl (nA DB))), (w0, .inr (1, fs)), (w3, .inl (G.2 0, 49, .inl (nA (cut 49 148 M)))), (w5, .inl (G.2 0, 2, .inl (nA (cut 2 197 M)))), (w6, .inl (G.2 0, 168, .inl (nA (vv M))))]) (wc := [(d0, .inr (0, [.ref d1, .int (nI (t + 1)), .int (nI (u + 1)), .int (nI lc), .ref w0, .ref d2, .int (nI hd), .int (nI ps)])), (d1, .inl (G.2 0, 24, .inl (nA DO))), (d2, .inl (G.2 0, 7, .inl (nA DB))), (w0, .inr (1, fs)), (w3, .inl (G.2 0, 49, .inl (nA (cut 49 148 M)))), (w5, .inl (G.2 0, 2, .inl (nA (cut 2 197 M)))), (w6, .inl (G.2 0, 168, .inl (nA (vv M))))]) (wr := []) (wn := fun _ => [(d0, .inr (0, [.ref d1, .int (nI (t + 1)), .int (nI (u + 1)), .int (nI lc), .ref w0, .ref d2, .int (nI c), .int (nI (f - 1))])), (d1, .inl (G.2 0, 24, .inl (nA DO))), (d2, .inl (G.2 0, 7, .inl (nA DB))), (w0, .inr (1, fs)), (w3, .inl (G.2 0, 49, .inl (nA (cut 49 148 M)))), (w5, .inl (G.2 0, 2, .inl (nA (cut 2 197 M)))), (w6, .inl (G.2 0, 168, .inl (nA (vv M))))]) ⟨hx, hb, hml, hown, hts⟩ (c_X0_hold l G d0 d1 (t + 1) (u + 1) lc w0 d2 hd ps DO DB w3 w5 w6 fs M c (f - 1) hf2 hf4 hf5 _) (cwV 2 hts gX0_mayTrim_X0_hold rfl rfl rfl (by decide +kernel) ⟨Nat.le_of_ble_eq_true rfl, Nat.le_of_ble_eq_true rfl⟩) hK hNW hP hD hS hAA [0, 1, 2, 3, 4, 5, 6] [] [0, 1, 2, 3, 4, 5, 6] rfl rfl rfl rfl (by decide) rfl (fun _ => rfl) 0 0 rfl rfl rfl hl.1 rfl (Nat.le_of_ble_eq_true rfl) dX0_mayTrim_89 ⟨by first | exact Nat.le_of_ble_eq_true rfl | omega, by first | exact Nat.le_of_ble_eq_true rfl | omega⟩ (fun uu H locs hw5 hP hD hS => ?_)
          have hP : va_P G.1 vwCl [(d0, .inr (0, [.ref d1, .int (nI (t + 1)), .int (nI (u + 1)), .int (nI lc), .ref w0, .ref d2, .int (nI c), .int (nI (f - 1))])), (d1, .inl (G.2 0, 24, .inl (nA DO))), (d2, .inl (G.2 0, 7, .inl (nA DB))), (w0, .inr (1, fs)), (w3, .inl (G.2 0, 49, .inl (nA (cut 49 148 M)))), (w5, .inl (G.2 0, 2, .inl (nA (cut 2 197 M)))), (w6, .inl (G.2 0, 168, .inl (nA (vv M))))] _ := hP
          have hD : va_D AA [(d0, .inr (0, [.ref d1, .int (nI (t + 1)), .int (nI (u + 1)), .int (nI lc), .ref w0, .ref d2, .int (nI c), .int (nI (f - 1))])), (d1, .inl (G.2 0, 24, .inl (nA DO))), (d2, .inl (G.2 0, 7, .inl (nA DB))), (w0, .inr (1, fs)), (w3, .inl (G.2 0, 49, .inl (nA (cut 49 148 M)))), (w5, .inl (G.2 0, 2, .inl (nA (cut 2 197 M)))), (w6, .inl (G.2 0, 168, .inl (nA (vv M))))] := hD
          have e : rstp c hd ps t u f (M 198) (gr M c hd) = (c, (f - 1), (t + 1), (u + 1)) := by
            unfold rstp
            rw [if_neg (by omega)]
            first | rw [if_pos (by omega)] | (rw [if_neg (by omega)]; first | rw [if_pos (by omega)] | rw [if_neg (by omega)])
          exact wretv hx hb hr hlk hK hS (()) (by show va_P G.1 vwCl [(d0, .inr (0, [.ref d1, .int (nI ((rstp c hd ps t u f (M 198) (gr M c hd)).2.2.1)), .int (nI ((rstp c hd ps t u f (M 198) (gr M c hd)).2.2.2)), .int (nI lc), .ref w0, .ref d2, .int (nI ((rstp c hd ps t u f (M 198) (gr M c hd)).1)), .int (nI ((rstp c hd ps t u f (M 198) (gr M c hd)).2.1))])), (d1, .inl (G.2 0, 24, .inl (nA DO))), (d2, .inl (G.2 0, 7, .inl (nA DB))), (w0, .inr (1, fs)), (w3, .inl (G.2 0, 49, .inl (nA (cut 49 148 M)))), (w5, .inl (G.2 0, 2, .inl (nA (cut 2 197 M)))), (w6, .inl (G.2 0, 168, .inl (nA (vv M))))] _; rw [e]; exact hP) (by show va_D _ [(d0, .inr (0, [.ref d1, .int (nI ((rstp c hd ps t u f (M 198) (gr M c hd)).2.2.1)), .int (nI ((rstp c hd ps t u f (M 198) (gr M c hd)).2.2.2)), .int (nI lc), .ref w0, .ref d2, .int (nI ((rstp c hd ps t u f (M 198) (gr M c hd)).1)), .int (nI ((rstp c hd ps t u f (M 198) (gr M c hd)).2.1))])), (d1, .inl (G.2 0, 24, .inl (nA DO))), (d2, .inl (G.2 0, 7, .inl (nA DB))), (w0, .inr (1, fs)), (w3, .inl (G.2 0, 49, .inl (nA (cut 49 148 M)))), (w5, .inl (G.2 0, 2, .inl (nA (cut 2 197 M)))), (w6, .inl (G.2 0, 168, .inl (nA (vv M))))]; rw [e]; exact hD) (trivial) dX0_mayTrim_92
  · skip
    refine lv_aload_n hx hb dX0_mayTrim_8 rfl (lv_at hl 0 rfl) ?_
    refine lv_dup hx hb dX0_mayTrim_9 rfl ?_
    refine va_get (D := G.1) (ci := 0) (v := .int (nI t)) (C := RX0) (T := TX0) (N := 8) hx hb hts hF0 hown hK hP 0 rfl rfl 1 (by decide) (hts (.fieldLink RX0 22 "CousinShares$Division" "trims" "I") (List.mem_of_getElem? (i := 2) rfl)) (fun _ h9 => h9) rfl dX0_mayTrim_10 ?_
    refine nr_const (v := 1) hx hb dX0_mayTrim_13 rfl ?_
    refine nr_add hx hb dX0_mayTrim_14 ?_
    refine va_put (D := G.1) (ci := 0) (v := .int (nI (t + 1))) (ty := .int) (C := RX0) (T := TX0) (N := 8) hx hb hts hF0 tyX0 tyX0_ok nmX0 hown hK hP hD hS 0 rfl rfl 1 (by decide) (hts (.fieldLink RX0 22 "CousinShares$Division" "trims" "I") (List.mem_of_getElem? (i := 2) rfl)) (fun _ h9 => h9) rfl (by decide +kernel) rfl rfl (Nat.le_of_ble_eq_true rfl) dX0_mayTrim_15 (fun H locs hP hD hS => ?_)
    have hP : va_P G.1 vwCl [(d0, .inr (0, [.ref d1, .int (nI (t + 1)), .int (nI u), .int (nI lc), .ref w0, .ref d2, .int (nI hd), .int (nI ps)])), (d1, .inl (G.2 0, 24, .inl (nA DO))), (d2, .inl (G.2 0, 7, .inl (nA DB))), (w0, .inr (1, fs)), (w3, .inl (G.2 0, 49, .inl (nA (cut 49 148 M)))), (w5, .inl (G.2 0, 2, .inl (nA (cut 2 197 M)))), (w6, .inl (G.2 0, 168, .inl (nA (vv M))))] _ := hP
    have hD : va_D AA [(d0, .inr (0, [.ref d1, .int (nI (t + 1)), .int (nI u), .int (nI lc), .ref w0, .ref d2, .int (nI hd), .int (nI ps)])), (d1, .inl (G.2 0, 24, .inl (nA DO))), (d2, .inl (G.2 0, 7, .inl (nA DB))), (w0, .inr (1, fs)), (w3, .inl (G.2 0, 49, .inl (nA (cut 49 148 M)))), (w5, .inl (G.2 0, 2, .inl (nA (cut 2 197 M)))), (w6, .inl (G.2 0, 168, .inl (nA (vv M))))] := hD
    refine lv_aload_n hx hb dX0_mayTrim_18 rfl (lv_at hl 0 rfl) ?_
    refine lv_iload_n hx hb dX0_mayTrim_19 rfl (lv_at hl 1 rfl) ?_
    refine lv_iload_n hx hb dX0_mayTrim_20 rfl (lv_at hl 2 rfl) ?_
    refine wcVvn (As := [.int (nI c), .int (nI f)]) (ws := [(d0, .inr (0, [.ref d1, .int (nI (t + 1)), .int (nI u), .int (nI lc), .ref w0, .ref d2, .int (nI hd), .int (nI ps)])), (d1, .inl (G.2 0, 24, .inl (nA DO))), (d2, .inl (G.2 0, 7, .inl (nA DB))), (w0, .inr (1, fs)), (w3, .inl (G.2 0, 49, .inl (nA (cut 49 148 M)))), (w5, .inl (G.2 0, 2, .inl (nA (cut 2 197 M)))), (w6, .inl (G.2 0, 168, .inl (nA (vv M))))]) (wc := [(d0, .inr (0, [.ref d1, .int (nI (t + 1)), .int (nI u), .int (nI lc), .ref w0, .ref d2, .int (nI hd), .int (nI ps)])), (d1, .inl (G.2 0, 24, .inl (nA DO))), (d2, .inl (G.2 0, 7, .inl (nA DB))), (w0, .inr (1, fs)), (w3, .inl (G.2 0, 49, .inl (nA (cut 49 148 M)))), (w5, .inl (G.2 0, 2, .inl (nA (cut 2 197 M)))), (w6, .inl (G.2 0, 168, .inl (nA (vv M))))]) (wr := []) (wn := fun _ => [(d0, .inr (0, [.ref d1, .int (nI (t + 1)), .int (nI u), .int (nI lc), .ref w0, .ref d2, .int (nI c), .int (nI f)])), (d1, .inl (G.2 0, 24, .inl (nA DO))), (d2, .inl (G.2 0, 7, .inl (nA DB))), (w0, .inr (1, fs)), (w3, .inl (G.2 0, 49, .inl (nA (cut 49 148 M)))), (w5, .inl (G.2 0, 2, .inl (nA (cut 2 197 M)))), (w6, .inl (G.2 0, 168, .inl (nA (vv M))))]) ⟨hx, hb, hml, hown, hts⟩ (c_X0_hold l G d0 d1 (t + 1) u lc w0 d2 hd ps DO DB w3 w5 w6 fs M c f hf2 hf4 hf5 _) (cwV 2 hts gX0_mayTrim_X0_hold rfl rfl rfl (by decide +kernel) ⟨Nat.le_of_ble_eq_true rfl, Nat.le_of_ble_eq_true rfl⟩) hK hNW hP hD hS hAA [0, 1, 2, 3, 4, 5, 6] [] [0, 1, 2, 3, 4, 5, 6] rfl rfl rfl rfl (by decide) rfl (fun _ => rfl) 0 0 rfl rfl rfl hl.1 rfl (Nat.le_of_ble_eq_true rfl) dX0_mayTrim_21 ⟨by first | exact Nat.le_of_ble_eq_true rfl | omega, by first | exact Nat.le_of_ble_eq_true rfl | omega⟩ (fun uu H locs hw7 hP hD hS => ?_)
    have hP : va_P G.1 vwCl [(d0, .inr (0, [.ref d1, .int (nI (t + 1)), .int (nI u), .int (nI lc), .ref w0, .ref d2, .int (nI c), .int (nI f)])), (d1, .inl (G.2 0, 24, .inl (nA DO))), (d2, .inl (G.2 0, 7, .inl (nA DB))), (w0, .inr (1, fs)), (w3, .inl (G.2 0, 49, .inl (nA (cut 49 148 M)))), (w5, .inl (G.2 0, 2, .inl (nA (cut 2 197 M)))), (w6, .inl (G.2 0, 168, .inl (nA (vv M))))] _ := hP
    have hD : va_D AA [(d0, .inr (0, [.ref d1, .int (nI (t + 1)), .int (nI u), .int (nI lc), .ref w0, .ref d2, .int (nI c), .int (nI f)])), (d1, .inl (G.2 0, 24, .inl (nA DO))), (d2, .inl (G.2 0, 7, .inl (nA DB))), (w0, .inr (1, fs)), (w3, .inl (G.2 0, 49, .inl (nA (cut 49 148 M)))), (w5, .inl (G.2 0, 2, .inl (nA (cut 2 197 M)))), (w6, .inl (G.2 0, 168, .inl (nA (vv M))))] := hD
    refine lv_goto (tgt := 92) hx hb dX0_mayTrim_24 (by decide) ?_
    have e : rstp c hd ps t u f (M 198) (gr M c hd) = (c, f, (t + 1), u) := by
      unfold rstp
      rw [if_neg (by omega)]
      first | rw [if_pos (by omega)] | (rw [if_neg (by omega)]; first | rw [if_pos (by omega)] | rw [if_neg (by omega)])
    exact wretv hx hb hr hlk hK hS (()) (by show va_P G.1 vwCl [(d0, .inr (0, [.ref d1, .int (nI ((rstp c hd ps t u f (M 198) (gr M c hd)).2.2.1)), .int (nI ((rstp c hd ps t u f (M 198) (gr M c hd)).2.2.2)), .int (nI lc), .ref w0, .ref d2, .int (nI ((rstp c hd ps t u f (M 198) (gr M c hd)).1)), .int (nI ((rstp c hd ps t u f (M 198) (gr M c hd)).2.1))])), (d1, .inl (G.2 0, 24, .inl (nA DO))), (d2, .inl (G.2 0, 7, .inl (nA DB))), (w0, .inr (1, fs)), (w3, .inl (G.2 0, 49, .inl (nA (cut 49 148 M)))), (w5, .inl (G.2 0, 2, .inl (nA (cut 2 197 M)))), (w6, .inl (G.2 0, 168, .inl (nA (vv M))))] _; rw [e]; exact hP) (by show va_D _ [(d0, .inr (0, [.ref d1, .int (nI ((rstp c hd ps t u f (M 198) (gr M c hd)).2.2.1)), .int (nI ((rstp c hd ps t u f (M 198) (gr M c hd)).2.2.2)), .int (nI lc), .ref w0, .ref d2, .int (nI ((rstp c hd ps t u f (M 198) (gr M c hd)).1)), .int (nI ((rstp c hd ps t u f (M 198) (gr M c hd)).2.1))])), (d1, .inl (G.2 0, 24, .inl (nA DO))), (d2, .inl (G.2 0, 7, .inl (nA DB))), (w0, .inr (1, fs)), (w3, .inl (G.2 0, 49, .inl (nA (cut 49 148 M)))), (w5, .inl (G.2 0, 2, .inl (nA (cut 2 197 M)))), (w6, .inl (G.2 0, 168, .inl (nA (vv M))))]; rw [e]; exact hD) (trivial) dX0_mayTrim_92)
