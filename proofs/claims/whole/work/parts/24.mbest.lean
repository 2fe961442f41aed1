set_option maxHeartbeats 4000000 in
set_option maxRecDepth 100000 in
theorem c_X6_best (l : Launch) (G : gG) (z0 : Nat) (z1 : Nat) (fs : List Value) (M : Nat → Nat) (p : Nat) (hf0 : fs[0]? = some (.ref z1)) (h0 : ok M) (hp : p = 0 ∨ p = 202) (hO : ∀ k, k < 24 → ow M p k < 8) (sz : Nat) : Met l yX6_best wsX6_best ({ frames := 6, cells := 0, slots := 0, locals := 143 } : Room) (WR G [(z0, .inr (6, fs)), (z1, .inl (G.2 0, 404, .inl (nA M)))] sz [.ref z0, .int (nI p)]) (va_Qi (fun (r : Int32) (_ : Unit) => r = nbI (bsf M (ow M p) 49).1 ∧ (True)) (WB G (va_A [(z0, .inr (6, fs)), (z1, .inl (G.2 0, 404, .inl (nA M)))] sz) (fun _ : Unit => [(z0, .inr (6, fs)), (z1, .inl (G.2 0, 404, .inl (nA M)))])) (va_A [(z0, .inr (6, fs)), (z1, .inl (G.2 0, 404, .inl (nA M)))] sz)) 0 0 (va_A [(z0, .inr (6, fs)), (z1, .inl (G.2 0, 404, .inl (nA M)))] sz) := wrM (Qf := fun AA => va_Qi (fun (r : Int32) (_ : Unit) => r = nbI (bsf M (ow M p) 49).1 ∧ (True)) (WB G AA (fun _ : Unit => [(z0, .inr (6, fs)), (z1, .inl (G.2 0, 404, .inl (nA M)))])) AA) (C := RX6) rfl (by decide) rfl (Nat.le_of_ble_eq_true rfl) (fun pX eX sX mX bX meX cX ls AA hx hb hr hts hown hlk hml hin hP hK hD hAA hS hl => by
  have hl : lv_has ls 8 [(0, .ref z0), (1, .int (nI p))] := hl
  refine lv_bipush (v := (-5)) hx hb dX6_best_0 (by decide +kernel) ?_
  refine lv_istore_n (lv' := [(2, .int (-5)), (0, .ref z0), (1, .int (nI p))]) hx hb dX6_best_2 rfl hl (by decide) rfl (fun ls hl => ?_)
  refine nr_const (v := 0) hx hb dX6_best_3 rfl ?_
  refine lv_istore_n (lv' := [(3, .int (nI 0)), (2, .int (-5)), (0, .ref z0), (1, .int (nI p))]) hx hb dX6_best_4 rfl hl (by decide) rfl (fun ls hl => ?_)
  refine nr_const (v := 0) hx hb dX6_best_5 rfl ?_
  refine lv_istore (lv' := [(4, .int (nI 0)), (3, .int (nI 0)), (2, .int (-5)), (0, .ref z0), (1, .int (nI p))]) hx hb dX6_best_6 hl (by decide) rfl (fun ls hl => ?_)
  refine loop_w (T := Nat) (nL := 8) (fun k => k ≤ 49) (fun k => 49 - k) (fun k => [(0, .ref z0), (1, .int (nI p)), (2, .int (nbI (bsf M (ow M p) k).1)), (3, .int (nI ((bsf M (ow M p) k).2))), (4, .int (nI k))]) (fun k => [(z0, .inr (6, fs)), (z1, .inl (G.2 0, 404, .inl (nA M)))]) ?_ 0 (lv_sub hl [3, 4, 2, 1, 0] rfl) hP hD hS (by omega)
  intro k ls H locs hl hP hD hS hi2 ih1
  have hi2_0 := hi2
  have hi2_0 : k ≤ 49 := hi2_0
  have hl : lv_has ls 8 [(0, .ref z0), (1, .int (nI p)), (2, .int (nbI (bsf M (ow M p) k).1)), (3, .int (nI ((bsf M (ow M p) k).2))), (4, .int (nI k))] := hl
  have hP : va_P G.1 vwCl [(z0, .inr (6, fs)), (z1, .inl (G.2 0, 404, .inl (nA M)))] _ := hP
  have hD : va_D AA [(z0, .inr (6, fs)), (z1, .inl (G.2 0, 404, .inl (nA M)))] := hD
  have hrs := rs_lt M (ow M p) (k / 7) (k % 7)
  have hbl := bsf_lt M (ow M p) (show k ≤ 49 by omega)
  have hes := es_le (O := swO (ow M p) (k / 7) (k % 7)) (A := 127) (B := 127) h0
  have hb2 : (bsf M (ow M p) k).2 ≤ 723975 := (bsf_2 h0 k)
  refine lv_iload hx hb dX6_best_8 (lv_at hl 4 rfl) ?_
  refine nr_bi (v := 49) hx hb dX6_best_10 (by decide +kernel) ?_
  refine br_ige (tgt := 123) hx hb dX6_best_12 (by decide) (by omega) (by decide) (fun h3 => ?_) (fun h3 => ?_)
  · skip
    refine lv_iload_n hx hb dX6_best_123 rfl (lv_at hl 2 rfl) ?_
    have e2 : k = 49 := (by omega)
    subst e2
    exact wret hx hb hr hlk hK hS (()) hP hD (⟨rfl, trivial⟩) dX6_best_124
  · skip
    refine lv_iload hx hb dX6_best_15 (lv_at hl 4 rfl) ?_
    refine nr_bi (v := 7) hx hb dX6_best_17 (by decide +kernel) ?_
    refine nr_div hx hb dX6_best_19 (by omega) (by decide) (by decide) ?_
    refine lv_istore (lv' := [(5, .int (nI (k / 7))), (0, .ref z0), (1, .int (nI p)), (2, .int (nbI (bsf M (ow M p) k).1)), (3, .int (nI ((bsf M (ow M p) k).2))), (4, .int (nI k))]) hx hb dX6_best_20 hl (by decide) rfl (fun ls hl => ?_)
    refine lv_iload hx hb dX6_best_22 (lv_at hl 5 rfl) ?_
    refine nr_bi (v := 7) hx hb dX6_best_24 (by decide +kernel) ?_
    refine nr_rem hx hb dX6_best_26 (by omega) (by decide) (by decide) ?_
    refine lv_istore (lv' := [(6, .int (nI (k % 7))), (5, .int (nI (k / 7))), (0, .ref z0), (1, .int (nI p)), (2, .int (nbI (bsf M (ow M p) k).1)), (3, .int (nI ((bsf M (ow M p) k).2))), (4, .int (nI k))]) hx hb dX6_best_27 hl (by decide) rfl (fun ls hl => ?_)
    refine lv_iload hx hb dX6_best_29 (lv_at hl 1 rfl) ?_
    refine lv_iload hx hb dX6_best_31 (lv_at hl 0 rfl) ?_
    refine br_ige (tgt := 117) hx hb dX6_best_33 (by decide) (by omega) (by omega) (fun h4 => ?_) (fun h4 => ?_)
    · skip
      refine nr_inc (d := 1) (v := k + 1) (lv' := [(4, .int (nI (k + 1))), (6, .int (nI (k % 7))), (5, .int (nI (k / 7))), (0, .ref z0), (1, .int (nI p)), (2, .int (nbI (bsf M (ow M p) k).1)), (3, .int (nI ((bsf M (ow M p) k).2)))]) hx hb dX6_best_117 hl (k := 6) rfl rfl (by decide) rfl (fun ls hl => ?_)
      refine lv_goto (tgt := 8) hx hb dX6_best_120 (by decide) ?_
      have efx : bsf M (ow M p) (k + 1) = bsf M (ow M p) k := by rw [bsf_s, if_neg (fun q => q.1 h4)]
      exact ih1 (k + 1) ls H locs (by show lv_has ls 8 [(0, .ref z0), (1, .int (nI p)), (2, .int (nbI (bsf M (ow M p) (k + 1)).1)), (3, .int (nI ((bsf M (ow M p) (k + 1)).2))), (4, .int (nI (k + 1)))]; rw [efx]; exact lv_sub hl [3, 4, 5, 6, 0] rfl) hP hD hS (by omega) (by omega)
    · skip
      refine lv_aload_n hx hb dX6_best_36 rfl (lv_at hl 2 rfl) ?_
      refine lv_iload_n hx hb dX6_best_37 rfl (lv_at hl 3 rfl) ?_
      refine lv_iload hx hb dX6_best_38 (lv_at hl 1 rfl) ?_
      refine lv_iload hx hb dX6_best_40 (lv_at hl 0 rfl) ?_
      refine rcV (As := [.int (nI p), .int (nI (k / 7)), .int (nI (k % 7))]) (wl := [(z0, .inr (6, fs)), (z1, .inl (G.2 0, 404, .inl (nA M)))]) ⟨hx, hb, hml, hown, hts⟩ (c_X6_reason l G z0 z1 fs M p (k / 7) (k % 7) hf0 h0 (by omega) (by omega) (by omega) hO) (cwV 3 hts gX6_best_X6_reason rfl rfl rfl (by decide +kernel) ⟨Nat.le_of_ble_eq_true rfl, Nat.le_of_ble_eq_true rfl⟩) hK hP 6 0 rfl rfl rfl hl.1 rfl (Nat.le_of_ble_eq_true rfl) dX6_best_42 ⟨Nat.zero_le _, Nat.zero_le _⟩ ?_
      refine br_ne0 (tgt := 117) hx hb dX6_best_45 (by decide) (by omega) (fun h5 => ?_) (fun h5 => ?_)
      · skip
        refine nr_inc (d := 1) (v := k + 1) (lv' := [(4, .int (nI (k + 1))), (6, .int (nI (k % 7))), (5, .int (nI (k / 7))), (0, .ref z0), (1, .int (nI p)), (2, .int (nbI (bsf M (ow M p) k).1)), (3, .int (nI ((bsf M (ow M p) k).2)))]) hx hb dX6_best_117 hl (k := 6) rfl rfl (by decide) rfl (fun ls hl => ?_)
        refine lv_goto (tgt := 8) hx hb dX6_best_120 (by decide) ?_
        have efx : bsf M (ow M p) (k + 1) = bsf M (ow M p) k := by rw [bsf_s, if_neg (fun q => h5 q.2)]
        exact ih1 (k + 1) ls H locs (by show lv_has ls 8 [(0, .ref z0), (1, .int (nI p)), (2, .int (nbI (bsf M (ow M p) (k + 1)).1)), (3, .int (nI ((bsf M (ow M p) (k + 1)).2))), (4, .int (nI (k + 1)))]; rw [efx]; exact lv_sub hl [3, 4, 5, 6, 0] rfl) hP hD hS (by omega) (by omega)
      · skip
        refine lv_aload_n hx hb dX6_best_48 rfl (lv_at hl 2 rfl) ?_
        refine lv_iload_n hx hb dX6_best_49 rfl (lv_at hl 3 rfl) ?_
        refine lv_iload hx hb dX6_best_50 (lv_at hl 1 rfl) ?_
        refine lv_iload hx hb dX6_best_52 (lv_at hl 0 rfl) ?_
        refine wcVv (As := [.int (nI p), .int (nI (k / 7)), .int (nI (k % 7))]) (ws := [(z0, .inr (6, fs)), (z1, .inl (G.2 0, 404, .inl (nA M)))]) (wc := [(z0, .inr (6, fs)), (z1, .inl (G.2 0, 404, .inl (nA M)))]) (wr := []) (wn := fun _ => [(z0, .inr (6, fs)), (z1, .inl (G.2 0, 404, .inl (nA (trA M p (k / 7) (k % 7) 24))))]) ⟨hx, hb, hml, hown, hts⟩ (c_X6_trades l G z0 z1 fs M p (k / 7) (k % 7) hf0 (by omega) (by omega) (by omega) hO _) (cwV 3 hts gX6_best_X6_trades rfl rfl rfl (by decide +kernel) ⟨Nat.le_of_ble_eq_true rfl, Nat.le_of_ble_eq_true rfl⟩) hK hP hD hS hAA [0, 1] [] [0, 1] rfl rfl rfl rfl (by decide) rfl (fun _ => rfl) 6 0 rfl rfl rfl hl.1 rfl (Nat.le_of_ble_eq_true rfl) dX6_best_54 ⟨by first | exact Nat.le_of_ble_eq_true rfl | omega, by first | exact Nat.le_of_ble_eq_true rfl | omega⟩ (fun uu H locs hw6 hP hD hS => ?_)
        have hP : va_P G.1 vwCl [(z0, .inr (6, fs)), (z1, .inl (G.2 0, 404, .inl (nA (trA M p (k / 7) (k % 7) 24))))] _ := hP
        have hD : va_D AA [(z0, .inr (6, fs)), (z1, .inl (G.2 0, 404, .inl (nA (trA M p (k / 7) (k % 7) 24))))] := hD
        refine lv_aload_n hx hb dX6_best_57 rfl (lv_at hl 2 rfl) ?_
        refine lv_iload_n hx hb dX6_best_58 rfl (lv_at hl 3 rfl) ?_
        refine rcV (As := [.int (nI p)]) (wl := [(z0, .inr (6, fs)), (z1, .inl (G.2 0, 404, .inl (nA (trA M p (k / 7) (k % 7) 24))))]) ⟨hx, hb, hml, hown, hts⟩ (c_X6_allEnvies l G z0 z1 fs (trA M p (k / 7) (k % 7) 24) p hf0 (trA_ok h0 hp (by omega) (by omega)) (by omega) (fun j hj => by rw [trA_ow M p _ _ hj]; exact swp_lt (by omega) (by omega) (hO j hj))) (cwV 1 hts gX6_best_X6_allEnvies rfl rfl rfl (by decide +kernel) ⟨Nat.le_of_ble_eq_true rfl, Nat.le_of_ble_eq_true rfl⟩) hK hP 6 0 rfl rfl rfl hl.1 rfl (Nat.le_of_ble_eq_true rfl) dX6_best_59 ⟨Nat.zero_le _, Nat.zero_le _⟩ ?_
        refine nr_top (y := nI (es M (swO (ow M p) (k / 7) (k % 7)) 127 127)) (congrArg nI (ag_es (trA_ag M p _ _ hp) (fun j hj => (trA_ow M p _ _ hj).symm)).symm) ?_
        refine lv_istore (lv' := [(7, .int (nI (es M (swO (ow M p) (k / 7) (k % 7)) 127 127))), (6, .int (nI (k % 7))), (5, .int (nI (k / 7))), (0, .ref z0), (1, .int (nI p)), (2, .int (nbI (bsf M (ow M p) k).1)), (3, .int (nI ((bsf M (ow M p) k).2))), (4, .int (nI k))]) hx hb dX6_best_62 hl (by decide) rfl (fun ls hl => ?_)
        refine lv_aload_n hx hb dX6_best_64 rfl (lv_at hl 3 rfl) ?_
        refine lv_iload_n hx hb dX6_best_65 rfl (lv_at hl 4 rfl) ?_
        refine lv_iload hx hb dX6_best_66 (lv_at hl 2 rfl) ?_
        refine lv_iload hx hb dX6_best_68 (lv_at hl 1 rfl) ?_
        refine wcVv (As := [.int (nI p), .int (nI (k / 7)), .int (nI (k % 7))]) (ws := [(z0, .inr (6, fs)), (z1, .inl (G.2 0, 404, .inl (nA (trA M p (k / 7) (k % 7) 24))))]) (wc := [(z0, .inr (6, fs)), (z1, .inl (G.2 0, 404, .inl (nA (trA M p (k / 7) (k % 7) 24))))]) (wr := []) (wn := fun _ => [(z0, .inr (6, fs)), (z1, .inl (G.2 0, 404, .inl (nA (trA (trA M p (k / 7) (k % 7) 24) p (k / 7) (k % 7) 24))))]) ⟨hx, hb, hml, hown, hts⟩ (c_X6_trades l G z0 z1 fs (trA M p (k / 7) (k % 7) 24) p (k / 7) (k % 7) hf0 (by omega) (by omega) (by omega) (fun j hj => by rw [trA_ow M p _ _ hj]; exact swp_lt (by omega) (by omega) (hO j hj)) _) (cwV 3 hts gX6_best_X6_trades rfl rfl rfl (by decide +kernel) ⟨Nat.le_of_ble_eq_true rfl, Nat.le_of_ble_eq_true rfl⟩) hK hP hD hS hAA [0, 1] [] [0, 1] rfl rfl rfl rfl (by decide) rfl (fun _ => rfl) 6 0 rfl rfl rfl hl.1 rfl (Nat.le_of_ble_eq_true rfl) dX6_best_70 ⟨by first | exact Nat.le_of_ble_eq_true rfl | omega, by first | exact Nat.le_of_ble_eq_true rfl | omega⟩ (fun uu H locs hw8 hP hD hS => ?_)
        have hP : va_P G.1 vwCl [(z0, .inr (6, fs)), (z1, .inl (G.2 0, 404, .inl (nA (trA (trA M p (k / 7) (k % 7) 24) p (k / 7) (k % 7) 24))))] _ := hP
        have hD : va_D AA [(z0, .inr (6, fs)), (z1, .inl (G.2 0, 404, .inl (nA (trA (trA M p (k / 7) (k % 7) 24) p (k / 7) (k % 7) 24))))] := hD
        rw [trA_2] at hP hD
        have hP : va_P G.1 vwCl [(z0, .inr (6, fs)), (z1, .inl (G.2 0, 404, .inl (nA M)))] _ := hP
        have hD : va_D AA [(z0, .inr (6, fs)), (z1, .inl (G.2 0, 404, .inl (nA M)))] := hD
        refine lv_iload_n hx hb dX6_best_73 rfl (lv_at hl 5 rfl) ?_
        refine lv_bipush (v := (-5)) hx hb dX6_best_74 (by decide +kernel) ?_
        refine lv_icmp_eq (tgt := 85) hx hb dX6_best_76 (by decide) (fun h10 => ?_) (fun h10 => ?_)
        · skip
          refine nr_bi (v := 10) hx hb dX6_best_85 (by decide +kernel) ?_
          refine lv_iload hx hb dX6_best_87 (lv_at hl 2 rfl) ?_
          refine nr_mul hx hb dX6_best_89 ?_
          refine lv_iload hx hb dX6_best_90 (lv_at hl 1 rfl) ?_
          refine nr_add hx hb dX6_best_92 ?_
          refine lv_goto (tgt := 97) hx hb dX6_best_93 (by decide) ?_
          refine lv_istore_n (lv' := [(2, .int (nI ((10 * (k / 7)) + (k % 7)))), (7, .int (nI (es M (swO (ow M p) (k / 7) (k % 7)) 127 127))), (6, .int (nI (k % 7))), (5, .int (nI (k / 7))), (0, .ref z0), (1, .int (nI p)), (3, .int (nI ((bsf M (ow M p) k).2))), (4, .int (nI k))]) hx hb dX6_best_97 rfl hl (by decide) rfl (fun ls hl => ?_)
          refine lv_iload_n hx hb dX6_best_98 rfl (lv_at hl 0 rfl) ?_
          refine nr_bi (v := 10) hx hb dX6_best_99 (by decide +kernel) ?_
          refine lv_iload hx hb dX6_best_101 (lv_at hl 3 rfl) ?_
          refine nr_mul hx hb dX6_best_103 ?_
          refine lv_iload hx hb dX6_best_104 (lv_at hl 2 rfl) ?_
          refine nr_add hx hb dX6_best_106 ?_
          refine br_ine (tgt := 115) hx hb dX6_best_107 (by decide) (by omega) (by omega) (fun h11 => ?_) (fun h11 => ?_)
          · exact absurd rfl h11
          · skip
            refine lv_iload hx hb dX6_best_110 (lv_at hl 1 rfl) ?_
            refine lv_goto (tgt := 116) hx hb dX6_best_112 (by decide) ?_
            refine lv_istore_n (lv' := [(3, .int (nI (es M (swO (ow M p) (k / 7) (k % 7)) 127 127))), (2, .int (nI ((10 * (k / 7)) + (k % 7)))), (7, .int (nI (es M (swO (ow M p) (k / 7) (k % 7)) 127 127))), (6, .int (nI (k % 7))), (5, .int (nI (k / 7))), (0, .ref z0), (1, .int (nI p)), (4, .int (nI k))]) hx hb dX6_best_116 rfl hl (by decide) rfl (fun ls hl => ?_)
            refine nr_inc (d := 1) (v := k + 1) (lv' := [(4, .int (nI (k + 1))), (3, .int (nI (es M (swO (ow M p) (k / 7) (k % 7)) 127 127))), (2, .int (nI ((10 * (k / 7)) + (k % 7)))), (7, .int (nI (es M (swO (ow M p) (k / 7) (k % 7)) 127 127))), (6, .int (nI (k % 7))), (5, .int (nI (k / 7))), (0, .ref z0), (1, .int (nI p))]) hx hb dX6_best_117 hl (k := 7) rfl rfl (by decide) rfl (fun ls hl => ?_)
            refine lv_goto (tgt := 8) hx hb dX6_best_120 (by decide) ?_
            have efx : bsf M (ow M p) (k + 1) = (10 * (k / 7) + k % 7, es M (swO (ow M p) (k / 7) (k % 7)) 127 127) := by rw [bsf_s, if_pos ⟨h4, h5⟩, if_pos (Or.inl ((nbI_5 (by have := bsf_lt M (ow M p) (show k ≤ 49 by omega); omega)).mp h10))]
            exact ih1 (k + 1) ls H locs (by show lv_has ls 8 [(0, .ref z0), (1, .int (nI p)), (2, .int (nbI (bsf M (ow M p) (k + 1)).1)), (3, .int (nI ((bsf M (ow M p) (k + 1)).2))), (4, .int (nI (k + 1)))]; rw [efx, nbI_p (show ¬ (10 * (k / 7) + k % 7, es M (swO (ow M p) (k / 7) (k % 7)) 127 127).1 = 0 by dsimp only; omega)]; exact lv_sub hl [6, 7, 2, 1, 0] rfl) hP hD hS (by omega) (by omega)
        · skip
          refine lv_iload hx hb dX6_best_79 (lv_at hl 0 rfl) ?_
          refine lv_iload_n hx hb dX6_best_81 rfl (lv_at hl 6 rfl) ?_
          refine br_ige (tgt := 96) hx hb dX6_best_82 (by decide) (by omega) (by omega) (fun h12 => ?_) (fun h12 => ?_)
          · skip
            refine lv_iload_n hx hb dX6_best_96 rfl (lv_at hl 5 rfl) ?_
            refine lv_istore_n (lv' := [(2, .int (nbI (bsf M (ow M p) k).1)), (7, .int (nI (es M (swO (ow M p) (k / 7) (k % 7)) 127 127))), (6, .int (nI (k % 7))), (5, .int (nI (k / 7))), (0, .ref z0), (1, .int (nI p)), (3, .int (nI ((bsf M (ow M p) k).2))), (4, .int (nI k))]) hx hb dX6_best_97 rfl hl (by decide) rfl (fun ls hl => ?_)
            refine lv_iload_n hx hb dX6_best_98 rfl (lv_at hl 0 rfl) ?_
            refine nr_bi (v := 10) hx hb dX6_best_99 (by decide +kernel) ?_
            refine lv_iload hx hb dX6_best_101 (lv_at hl 3 rfl) ?_
            refine nr_mul hx hb dX6_best_103 ?_
            refine lv_iload hx hb dX6_best_104 (lv_at hl 2 rfl) ?_
            refine nr_add hx hb dX6_best_106 ?_
            refine lv_icmp_ne (tgt := 115) hx hb dX6_best_107 (by decide) (fun h13 => ?_) (fun h13 => ?_)
            · skip
              refine lv_iload_n hx hb dX6_best_115 rfl (lv_at hl 6 rfl) ?_
              refine lv_istore_n (lv' := [(3, .int (nI ((bsf M (ow M p) k).2))), (2, .int (nbI (bsf M (ow M p) k).1)), (7, .int (nI (es M (swO (ow M p) (k / 7) (k % 7)) 127 127))), (6, .int (nI (k % 7))), (5, .int (nI (k / 7))), (0, .ref z0), (1, .int (nI p)), (4, .int (nI k))]) hx hb dX6_best_116 rfl hl (by decide) rfl (fun ls hl => ?_)
              refine nr_inc (d := 1) (v := k + 1) (lv' := [(4, .int (nI (k + 1))), (3, .int (nI ((bsf M (ow M p) k).2))), (2, .int (nbI (bsf M (ow M p) k).1)), (7, .int (nI (es M (swO (ow M p) (k / 7) (k % 7)) 127 127))), (6, .int (nI (k % 7))), (5, .int (nI (k / 7))), (0, .ref z0), (1, .int (nI p))]) hx hb dX6_best_117 hl (k := 7) rfl rfl (by decide) rfl (fun ls hl => ?_)
              refine lv_goto (tgt := 8) hx hb dX6_best_120 (by decide) ?_
              have efx : bsf M (ow M p) (k + 1) = bsf M (ow M p) k := by rw [bsf_s, if_pos ⟨h4, h5⟩, if_neg (fun q => q.elim (fun w => h10 ((nbI_5 (by omega)).mpr w)) (fun w => absurd w (Nat.not_lt_of_le h12)))]
              exact ih1 (k + 1) ls H locs (by show lv_has ls 8 [(0, .ref z0), (1, .int (nI p)), (2, .int (nbI (bsf M (ow M p) (k + 1)).1)), (3, .int (nI ((bsf M (ow M p) (k + 1)).2))), (4, .int (nI (k + 1)))]; rw [efx]; exact lv_sub hl [6, 7, 2, 1, 0] rfl) hP hD hS (by omega) (by omega)
            · exact absurd h13 (bsf_ne (by omega))
          · skip
            refine nr_bi (v := 10) hx hb dX6_best_85 (by decide +kernel) ?_
            refine lv_iload hx hb dX6_best_87 (lv_at hl 2 rfl) ?_
            refine nr_mul hx hb dX6_best_89 ?_
            refine lv_iload hx hb dX6_best_90 (lv_at hl 1 rfl) ?_
            refine nr_add hx hb dX6_best_92 ?_
            refine lv_goto (tgt := 97) hx hb dX6_best_93 (by decide) ?_
            refine lv_istore_n (lv' := [(2, .int (nI ((10 * (k / 7)) + (k % 7)))), (7, .int (nI (es M (swO (ow M p) (k / 7) (k % 7)) 127 127))), (6, .int (nI (k % 7))), (5, .int (nI (k / 7))), (0, .ref z0), (1, .int (nI p)), (3, .int (nI ((bsf M (ow M p) k).2))), (4, .int (nI k))]) hx hb dX6_best_97 rfl hl (by decide) rfl (fun ls hl => ?_)
            refine lv_iload_n hx hb dX6_best_98 rfl (lv_at hl 0 rfl) ?_
            refine nr_bi (v := 10) hx hb dX6_best_99 (by decide +kernel) ?_
            refine lv_iload hx hb dX6_best_101 (lv_at hl 3 rfl) ?_
            refine nr_mul hx hb dX6_best_103 ?_
            refine lv_iload hx hb dX6_best_104 (lv_at hl 2 rfl) ?_
            refine nr_add hx hb dX6_best_106 ?_
            refine br_ine (tgt := 115) hx hb dX6_best_107 (by decide) (by omega) (by omega) (fun h14 => ?_) (fun h14 => ?_)
            · exact absurd rfl h14
            · skip
              refine lv_iload hx hb dX6_best_110 (lv_at hl 1 rfl) ?_
              refine lv_goto (tgt := 116) hx hb dX6_best_112 (by decide) ?_
              refine lv_istore_n (lv' := [(3, .int (nI (es M (swO (ow M p) (k / 7) (k % 7)) 127 127))), (2, .int (nI ((10 * (k / 7)) + (k % 7)))), (7, .int (nI (es M (swO (ow M p) (k / 7) (k % 7)) 127 127))), (6, .int (nI (k % 7))), (5, .int (nI (k / 7))), (0, .ref z0), (1, .int (nI p)), (4, .int (nI k))]) hx hb dX6_best_116 rfl hl (by decide) rfl (fun ls hl => ?_)
              refine nr_inc (d := 1) (v := k + 1) (lv' := [(4, .int (nI (k + 1))), (3, .int (nI (es M (swO (ow M p) (k / 7) (k % 7)) 127 127))), (2, .int (nI ((10 * (k / 7)) + (k % 7)))), (7, .int (nI (es M (swO (ow M p) (k / 7) (k % 7)) 127 127))), (6, .int (nI (k % 7))), (5, .int (nI (k / 7))), (0, .ref z0), (1, .int (nI p))]) hx hb dX6_best_117 hl (k := 7) rfl rfl (by decide) rfl (fun ls hl => ?_)
              refine lv_goto (tgt := 8) hx hb dX6_best_120 (by decide) ?_
              have efx : bsf M (ow M p) (k + 1) = (10 * (k / 7) + k % 7, es M (swO (ow M p) (k / 7) (k % 7)) 127 127) := by rw [bsf_s, if_pos ⟨h4, h5⟩, if_pos (Or.inr (Nat.lt_of_not_le h12))]
              exact ih1 (k + 1) ls H locs (by show lv_has ls 8 [(0, .ref z0), (1, .int (nI p)), (2, .int (nbI (bsf M (ow M p) (k + 1)).1)), (3, .int (nI ((bsf M (ow M p) (k + 1)).2))), (4, .int (nI (k + 1)))]; rw [efx, nbI_p (show ¬ (10 * (k / 7) + k % 7, es M (swO (ow M p) (k / 7) (k % 7)) 127 127).1 = 0 by dsimp only; omega)]; exact lv_sub hl [6, 7, 2, 1, 0] rfl) hP hD hS (by omega) (by omega))

set_option maxHeartbeats 4000000 in
set_option maxRecDepth 100000 in
theorem c_X6_settles (l : Launch) (G : gG) (z0 : Nat) (z1 : Nat) (fs : List Value) (M : Nat → Nat) (p : Nat) (hf0 : fs[0]? = some (.ref z1)) (h0 : ok M) (hp : p = 0 ∨ p = 202) (hO : ∀ k, k < 24 → ow M p k < 8) (sz : Nat) : Met l yX6_settles wsX6_settles ({ frames := 7, cells := 0, slots := 0, locals := 170 } : Room) (WR G [(z0, .inr (6, fs)), (z1, .inl (G.2 0, 404, .inl (nA M)))] sz [.ref z0, .int (nI p)]) (va_Qi (fun (r : Int32) (nn : Nat) => r = nI nn ∧ (stq M (ow M p) nn)) (WB G (va_A [(z0, .inr (6, fs)), (z1, .inl (G.2 0, 404, .inl (nA M)))] sz) (fun nn : Nat => [(z0, .inr (6, fs)), (z1, .inl (G.2 0, 404, .inl (nA (va_up (dvM M p (stO M (ow M p) nn) 0 0) (p + 201) (M (p + 201) + nn)))))])) (va_A [(z0, .inr (6, fs)), (z1, .inl (G.2 0, 404, .inl (nA M)))] sz)) 0 0 (va_A [(z0, .inr (6, fs)), (z1, .inl (G.2 0, 404, .inl (nA M)))] sz) := wrM (Qf := fun AA => va_Qi (fun (r : Int32) (nn : Nat) => r = nI nn ∧ (stq M (ow M p) nn)) (WB G AA (fun nn : Nat => [(z0, .inr (6, fs)), (z1, .inl (G.2 0, 404, .inl (nA (va_up (dvM M p (stO M (ow M p) nn) 0 0) (p + 201) (M (p + 201) + nn)))))])) AA) (C := RX6) rfl (by decide) rfl (Nat.le_of_ble_eq_true rfl) (fun pX eX sX mX bX meX cX ls AA hx hb hr hts hown hlk hml hin hP hK hD hAA hS hl => by
  have hl : lv_has ls 4 [(0, .ref z0), (1, .int (nI p))] := hl
  have hF6 : ∀ w ∈ wsX60, w ∈ wsX6_settles := fun _ h => (List.mem_cons_of_mem _ (List.mem_append_right _ h))
  refine nr_const (v := 0) hx hb dX6_settles_0 rfl ?_
  refine lv_istore_n (lv' := [(2, .int (nI 0)), (0, .ref z0), (1, .int (nI p))]) hx hb dX6_settles_1 rfl hl (by decide) rfl (fun ls hl => ?_)
  refine lv_aload_n hx hb dX6_settles_2 rfl (lv_at hl 1 rfl) ?_
  refine lv_iload_n hx hb dX6_settles_3 rfl (lv_at hl 2 rfl) ?_
  refine wcVi (As := [.int (nI p)]) (ws := [(z0, .inr (6, fs)), (z1, .inl (G.2 0, 404, .inl (nA M)))]) (wc := [(z0, .inr (6, fs)), (z1, .inl (G.2 0, 404, .inl (nA M)))]) (wr := []) (wn := fun _ => [(z0, .inr (6, fs)), (z1, .inl (G.2 0, 404, .inl (nA M)))]) ⟨hx, hb, hml, hown, hts⟩ (c_X6_best l G z0 z1 fs M p hf0 h0 (by omega) hO _) (cwV 1 hts gX6_settles_X6_best rfl rfl rfl (by decide +kernel) ⟨Nat.le_of_ble_eq_true rfl, Nat.le_of_ble_eq_true rfl⟩) hK hP hD hS hAA [0, 1] [] [0, 1] rfl rfl rfl rfl (by decide) rfl (fun _ => rfl) 6 0 rfl rfl rfl hl.1 rfl (Nat.le_of_ble_eq_true rfl) dX6_settles_4 ⟨by first | exact Nat.le_of_ble_eq_true rfl | omega, by first | exact Nat.le_of_ble_eq_true rfl | omega⟩ (fun rr2 uu H locs hw1 hP hD hS => ?_)
  have hP : va_P G.1 vwCl [(z0, .inr (6, fs)), (z1, .inl (G.2 0, 404, .inl (nA M)))] _ := hP
  have hD : va_D AA [(z0, .inr (6, fs)), (z1, .inl (G.2 0, 404, .inl (nA M)))] := hD
  obtain ⟨hrhw1, hw1⟩ := hw1
  subst hrhw1
  refine nr_top (y := nbI (bsf M (stO M (ow M p) 0) 49).1) (rfl) ?_
  refine lv_istore_n (lv' := [(3, .int (nbI (bsf M (stO M (ow M p) 0) 49).1)), (2, .int (nI 0)), (0, .ref z0), (1, .int (nI p))]) hx hb dX6_settles_7 rfl hl (by decide) rfl (fun ls hl => ?_)
  have hP := (congrArg (fun q => va_P G.1 vwCl [(z0, .inr (6, fs)), (z1, .inl (G.2 0, 404, .inl (nA q)))] H) (dvM_0 M p)).mpr hP
  have hD := (congrArg (fun q => va_D AA [(z0, .inr (6, fs)), (z1, .inl (G.2 0, 404, .inl (nA q)))]) (dvM_0 M p)).mpr hD
  refine loop_w (T := Nat) (nL := 4) (fun n => ∀ j, j < n → ¬ (bsf M (stO M (ow M p) j) 49).1 = 0) (fun n => rk M (stO M (ow M p) n)) (fun n => [(0, .ref z0), (1, .int (nI p)), (2, .int (nI n)), (3, .int (nbI (bsf M (stO M (ow M p) n) 49).1))]) (fun n => [(z0, .inr (6, fs)), (z1, .inl (G.2 0, 404, .inl (nA (dvM M p (stO M (ow M p) n) 0 0))))]) ?_ 0 (lv_sub hl [2, 3, 1, 0] rfl) hP hD hS (fun j hj => absurd hj (Nat.not_lt_zero j))
  intro n ls H locs hl hP hD hS hi4 ih3
  have hi_0 := hi4
  have hi_0 : ∀ j, j < n → ¬ (bsf M (stO M (ow M p) j) 49).1 = 0 := hi_0
  have hl : lv_has ls 4 [(0, .ref z0), (1, .int (nI p)), (2, .int (nI n)), (3, .int (nbI (bsf M (stO M (ow M p) n) 49).1))] := hl
  have hP : va_P G.1 vwCl [(z0, .inr (6, fs)), (z1, .inl (G.2 0, 404, .inl (nA (dvM M p (stO M (ow M p) n) 0 0))))] _ := hP
  have hD : va_D AA [(z0, .inr (6, fs)), (z1, .inl (G.2 0, 404, .inl (nA (dvM M p (stO M (ow M p) n) 0 0))))] := hD
  have hst := stO_lt hO (M := M) (n := n) hi_0
  have hbl := bsf_lt M (stO M (ow M p) n) (Nat.le_refl 49)
  refine lv_iload_n hx hb dX6_settles_8 rfl (lv_at hl 3 rfl) ?_
  refine lv_bipush (v := (-5)) hx hb dX6_settles_9 (by decide +kernel) ?_
  refine lv_icmp_eq (tgt := 39) hx hb dX6_settles_11 (by decide) (fun h5 => ?_) (fun h5 => ?_)
  · skip
    refine lv_aload_n hx hb dX6_settles_39 rfl (lv_at hl 0 rfl) ?_
    refine va_get (D := G.1) (ci := 6) (v := .ref z1) (C := RX6) (T := TX6) (N := 9) hx hb hts hF6 hown hK hP 0 rfl rfl 0 (by decide) (hts (.fieldLink RX6 7 "CousinSharesModel" "s" "[I") (List.mem_of_getElem? (i := 1) rfl)) (fun _ h9 => h9) hf0 dX6_settles_40 ?_
    refine lv_iload_n hx hb dX6_settles_43 rfl (lv_at hl 1 rfl) ?_
    refine nr_si (v := 201) hx hb dX6_settles_44 (by decide +kernel) ?_
    refine nr_add hx hb dX6_settles_47 ?_
    refine lv_dup2_11 hx hb dX6_settles_48 rfl rfl ?_
    refine nr_ald hx hb hK hP 1 rfl (by omega) (by decide) dX6_settles_49 ?_
    refine nr_top (y := nI (M (p + 201))) (congrArg nI (dvM_x M p _ (by omega))) ?_
    refine lv_iload_n hx hb dX6_settles_50 rfl (lv_at hl 2 rfl) ?_
    refine nr_add hx hb dX6_settles_51 ?_
    refine nr_ast (ws' := [(z0, .inr (6, fs)), (z1, .inl (G.2 0, 404, .inl (nA (va_up (dvM M p (stO M (ow M p) n) 0 0) (p + 201) ((M (p + 201)) + n)))))]) hx hb hK hP hD hS 1 rfl (by omega) (by decide) dX6_settles_52 rfl (fun H locs hP hD hS => ?_)
    refine lv_iload_n hx hb dX6_settles_53 rfl (lv_at hl 2 rfl) ?_
    exact wret hx hb hr hlk hK hS (n) hP hD (⟨rfl, hi_0, (nbI_5 (by omega)).mp (by assumption)⟩) dX6_settles_54
  · skip
    have hnb : ¬ (bsf M (stO M (ow M p) n) 49).1 = 0 := (fun q => absurd ((nbI_5 (by omega)).mpr q) (by assumption))
    have hbb := bsf_b hnb
    refine lv_aload_n hx hb dX6_settles_14 rfl (lv_at hl 0 rfl) ?_
    refine lv_iload_n hx hb dX6_settles_15 rfl (lv_at hl 1 rfl) ?_
    refine lv_iload_n hx hb dX6_settles_16 rfl (lv_at hl 3 rfl) ?_
    refine nr_top (y := nI ((bsf M (stO M (ow M p) n) 49).1)) (nbI_p hnb) ?_
    refine nr_bi (v := 10) hx hb dX6_settles_17 (by decide +kernel) ?_
    refine nr_div hx hb dX6_settles_19 (by omega) (by decide) (by decide) ?_
    refine lv_iload_n hx hb dX6_settles_20 rfl (lv_at hl 3 rfl) ?_
    refine nr_top (y := nI ((bsf M (stO M (ow M p) n) 49).1)) (nbI_p hnb) ?_
    refine nr_bi (v := 10) hx hb dX6_settles_21 (by decide +kernel) ?_
    refine nr_rem hx hb dX6_settles_23 (by omega) (by decide) (by decide) ?_
    refine wcVv (As := [.int (nI p), .int (nI (((bsf M (stO M (ow M p) n) 49).1) / 10)), .int (nI (((bsf M (stO M (ow M p) n) 49).1) % 10))]) (ws := [(z0, .inr (6, fs)), (z1, .inl (G.2 0, 404, .inl (nA (dvM M p (stO M (ow M p) n) 0 0))))]) (wc := [(z0, .inr (6, fs)), (z1, .inl (G.2 0, 404, .inl (nA (dvM M p (stO M (ow M p) n) 0 0))))]) (wr := []) (wn := fun _ => [(z0, .inr (6, fs)), (z1, .inl (G.2 0, 404, .inl (nA (trA (dvM M p (stO M (ow M p) n) 0 0) p (((bsf M (stO M (ow M p) n) 49).1) / 10) (((bsf M (stO M (ow M p) n) 49).1) % 10) 24))))]) ⟨hx, hb, hml, hown, hts⟩ (c_X6_trades l G z0 z1 fs (dvM M p (stO M (ow M p) n) 0 0) p (((bsf M (stO M (ow M p) n) 49).1) / 10) (((bsf M (stO M (ow M p) n) 49).1) % 10) hf0 (by omega) (by omega) (by omega) (fun k hk => by rw [show ow (dvM M p (stO M (ow M p) n) 0 0) p k = (stO M (ow M p) n) k from dvM_in M p _ 0 0 hk]; exact hst k hk) _) (cwV 3 hts gX6_settles_X6_trades rfl rfl rfl (by decide +kernel) ⟨Nat.le_of_ble_eq_true rfl, Nat.le_of_ble_eq_true rfl⟩) hK hP hD hS hAA [0, 1] [] [0, 1] rfl rfl rfl rfl (by decide) rfl (fun _ => rfl) 6 0 rfl rfl rfl hl.1 rfl (Nat.le_of_ble_eq_true rfl) dX6_settles_24 ⟨by first | exact Nat.le_of_ble_eq_true rfl | omega, by first | exact Nat.le_of_ble_eq_true rfl | omega⟩ (fun uu H locs hw6 hP hD hS => ?_)
    have hP : va_P G.1 vwCl [(z0, .inr (6, fs)), (z1, .inl (G.2 0, 404, .inl (nA (trA (dvM M p (stO M (ow M p) n) 0 0) p (((bsf M (stO M (ow M p) n) 49).1) / 10) (((bsf M (stO M (ow M p) n) 49).1) % 10) 24))))] _ := hP
    have hD : va_D AA [(z0, .inr (6, fs)), (z1, .inl (G.2 0, 404, .inl (nA (trA (dvM M p (stO M (ow M p) n) 0 0) p (((bsf M (stO M (ow M p) n) 49).1) / 10) (((bsf M (stO M (ow M p) n) 49).1) % 10) 24))))] := hD
    rw [trA_dvM] at hP hD
    have hP : va_P G.1 vwCl [(z0, .inr (6, fs)), (z1, .inl (G.2 0, 404, .inl (nA (dvM M p (stO M (ow M p) (n + 1)) 0 0))))] _ := hP
    have hD : va_D AA [(z0, .inr (6, fs)), (z1, .inl (G.2 0, 404, .inl (nA (dvM M p (stO M (ow M p) (n + 1)) 0 0))))] := hD
    have hst1 := stO_lt hO (M := M) (n := n + 1) (fun j hj => by rcases Nat.lt_or_ge j n with q | q; exact hi_0 j q; rw [show j = n by omega]; exact hnb)
    refine nr_inc (d := 1) (v := n + 1) (lv' := [(2, .int (nI (n + 1))), (0, .ref z0), (1, .int (nI p)), (3, .int (nbI (bsf M (stO M (ow M p) n) 49).1))]) hx hb dX6_settles_27 hl (k := 2) rfl rfl (by decide) rfl (fun ls hl => ?_)
    refine lv_aload_n hx hb dX6_settles_30 rfl (lv_at hl 1 rfl) ?_
    refine lv_iload_n hx hb dX6_settles_31 rfl (lv_at hl 2 rfl) ?_
    refine wcVi (As := [.int (nI p)]) (ws := [(z0, .inr (6, fs)), (z1, .inl (G.2 0, 404, .inl (nA (dvM M p (stO M (ow M p) (n + 1)) 0 0))))]) (wc := [(z0, .inr (6, fs)), (z1, .inl (G.2 0, 404, .inl (nA (dvM M p (stO M (ow M p) (n + 1)) 0 0))))]) (wr := []) (wn := fun _ => [(z0, .inr (6, fs)), (z1, .inl (G.2 0, 404, .inl (nA (dvM M p (stO M (ow M p) (n + 1)) 0 0))))]) ⟨hx, hb, hml, hown, hts⟩ (c_X6_best l G z0 z1 fs (dvM M p (stO M (ow M p) (n + 1)) 0 0) p hf0 (dvM_ok h0 hp hst1 0 0) (by omega) (fun k hk => by rw [show ow (dvM M p (stO M (ow M p) (n + 1)) 0 0) p k = stO M (ow M p) (n + 1) k from dvM_in M p _ 0 0 hk]; exact hst1 k hk) _) (cwV 1 hts gX6_settles_X6_best rfl rfl rfl (by decide +kernel) ⟨Nat.le_of_ble_eq_true rfl, Nat.le_of_ble_eq_true rfl⟩) hK hP hD hS hAA [0, 1] [] [0, 1] rfl rfl rfl rfl (by decide) rfl (fun _ => rfl) 6 0 rfl rfl rfl hl.1 rfl (Nat.le_of_ble_eq_true rfl) dX6_settles_32 ⟨by first | exact Nat.le_of_ble_eq_true rfl | omega, by first | exact Nat.le_of_ble_eq_true rfl | omega⟩ (fun rr9 uu H locs hw8 hP hD hS => ?_)
    have hP : va_P G.1 vwCl [(z0, .inr (6, fs)), (z1, .inl (G.2 0, 404, .inl (nA (dvM M p (stO M (ow M p) (n + 1)) 0 0))))] _ := hP
    have hD : va_D AA [(z0, .inr (6, fs)), (z1, .inl (G.2 0, 404, .inl (nA (dvM M p (stO M (ow M p) (n + 1)) 0 0))))] := hD
    obtain ⟨hrhw8, hw8⟩ := hw8
    subst hrhw8
    refine nr_top (y := nbI (bsf M (stO M (ow M p) (n + 1)) 49).1) (congrArg nbI (congrArg Prod.fst (ag_bsf (dvM_ag M hp _ _ _) (fun k hk => (show stO M (ow M p) (n + 1) k = ow (dvM M p (stO M (ow M p) (n + 1)) 0 0) p k from (dvM_in M p _ 0 0 hk).symm)) (Nat.le_refl 49)).symm)) ?_
    refine lv_istore_n (lv' := [(3, .int (nbI (bsf M (stO M (ow M p) (n + 1)) 49).1)), (2, .int (nI (n + 1))), (0, .ref z0), (1, .int (nI p))]) hx hb dX6_settles_35 rfl hl (by decide) rfl (fun ls hl => ?_)
    refine lv_goto (tgt := 8) hx hb dX6_settles_36 (by decide) ?_
    exact ih3 (n + 1) ls H locs (lv_sub hl [2, 3, 1, 0] rfl) hP hD hS (fun j hj => by rcases Nat.lt_or_ge j n with q | q; exact hi_0 j q; rw [show j = n by omega]; exact hnb) (by have := rk_st hnb; omega))
