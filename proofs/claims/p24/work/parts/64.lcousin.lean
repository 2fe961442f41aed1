set_option maxHeartbeats 4000000 in
set_option maxRecDepth 100000 in
theorem m_isCousin (l : Launch) (G : gG) (AA : Nat → Prop) (c0 hbd : Nat) (M : Nat → Nat) (hp : q_HP) (c : Nat) (hc : c < 7) (hv : q_iv hbd M) : Met l yL_isCousin wsL_isCousin ({ frames := 5, cells := 0, slots := 0, locals := 132 } : Room) (q_PO G AA (q_OB G AA c0 hbd M hp) [.ref c0, .int (nI c)]) (va_Qi (fun (r : Int32) (u : Unit) => r = nI 1 ∧ (True)) (fun (u : Unit) (t : State) => (q_OB G AA c0 hbd M hp) t.heap) AA) 0 0 AA := obM (C := RL) rfl (by decide) rfl (Nat.le_of_ble_eq_true rfl) (fun pX eX sX mX bX meX cX ls hx hb hr hts hown hlk hml hAA hO hK hNW hS hl => by
  have hl : lv_has ls 14 [(0, .ref c0), (1, .int (nI c))] := hl
  have h0k := hv.1
  have hdg := hv.2.2.2.2 c hc
  have hs0 : sh M (ow M 0) c c ≤ 7776 := sh_le h0k hc
  have hwf : wf M c 0 ≤ 7776 := sr_le (a := 0) (n := 24) h0k hc (by omega)
  have hp4 := pc4_le (ow M 0) c
  have hhn := hnd_le hs0
  have hpl := pl_lt h0k hc
  have h197 := h0k.2.2.2.2.1
  have hg1 := gs_le h0k hc
  have hme : me M (ow M 0) c 7 ≤ 14775 := me_le h0k hc (Nat.le_refl 7)
  have hse7 : sm (fun j => ev M (ow M 0) c j) 7 ≤ 103425 := se7_le h0k hc (Nat.le_refl 7)
  refine nr_const (v := 0) hx hb dL_isCousin_0 rfl ?_
  refine lv_istore_n (lv' := [(2, .int (nI 0)), (0, .ref c0), (1, .int (nI c))]) hx hb dL_isCousin_1 rfl hl (by decide) rfl (fun ls hl => ?_)
  refine nr_const (v := 0) hx hb dL_isCousin_2 rfl ?_
  refine lv_istore_n (lv' := [(3, .int (nI 0)), (2, .int (nI 0)), (0, .ref c0), (1, .int (nI c))]) hx hb dL_isCousin_3 rfl hl (by decide) rfl (fun ls hl => ?_)
  refine nr_const (v := 0) hx hb dL_isCousin_4 rfl ?_
  refine lv_istore (lv' := [(4, .int (nI 0)), (3, .int (nI 0)), (2, .int (nI 0)), (0, .ref c0), (1, .int (nI c))]) hx hb dL_isCousin_5 hl (by decide) rfl (fun ls hl => ?_)
  refine nr_const (v := 0) hx hb dL_isCousin_7 rfl ?_
  refine lv_istore (lv' := [(5, .int (nI 0)), (4, .int (nI 0)), (3, .int (nI 0)), (2, .int (nI 0)), (0, .ref c0), (1, .int (nI c))]) hx hb dL_isCousin_8 hl (by decide) rfl (fun ls hl => ?_)
  refine loop_o (T := Nat) (nL := 14) (fun k => k ≤ 24) (fun k => 24 - k) (fun k => [(5, .int (nI k)), (4, .int (nI (sm (fun j => wr M c j) k))), (3, .int (nI (sm (fun j => if ow M 0 j = c then wr M c j else 0) k))), (2, .int (nI (sm (fun j => bb (ow M 0 j = c)) k))), (0, .ref c0), (1, .int (nI c))]) (fun k => q_OB G AA c0 hbd M hp) ?_ 0 (lv_sub hl [0, 1, 2, 3, 4, 5] rfl) hO hS (by omega)
  intro k ls H locs hl hO hS hi2 ih1
  have hi2_0 := hi2
  have hi2_0 : k ≤ 24 := hi2_0
  have hO : q_OB G AA c0 hbd M hp _ := hO
  have hl : lv_has ls 14 [(5, .int (nI k)), (4, .int (nI (sm (fun j => wr M c j) k))), (3, .int (nI (sm (fun j => if ow M 0 j = c then wr M c j else 0) k))), (2, .int (nI (sm (fun j => bb (ow M 0 j = c)) k))), (0, .ref c0), (1, .int (nI c))] := hl
  refine lv_iload hx hb dL_isCousin_10 (lv_at hl 0 rfl) ?_
  refine nr_bi (v := 24) hx hb dL_isCousin_12 (by decide +kernel) ?_
  refine br_ige (tgt := 94) hx hb dL_isCousin_14 (by decide) (by omega) (by decide) (fun h3 => ?_) (fun h3 => ?_)
  · skip
    have e2 : k = 24 := (by omega)
    subst e2
    have hl : lv_has ls 14 [(5, .int (nI 24)), (4, .int (nI (sm (fun j => wr M c j) 24))), (3, .int (nI (sm (fun j => if ow M 0 j = c then wr M c j else 0) 24))), (2, .int (nI (sm (fun j => bb (ow M 0 j = c)) 24))), (0, .ref c0), (1, .int (nI c))] := hl
    rw [wf_0 M c] at hl
    have hl : lv_has ls 14 [(5, .int (nI 24)), (4, .int (nI (wf M c 0))), (3, .int (nI (sh M (ow M 0) c c))), (2, .int (nI (pc4 (ow M 0) c))), (0, .ref c0), (1, .int (nI c))] := hl
    refine nr_const (v := 0) hx hb dL_isCousin_94 rfl ?_
    refine lv_istore (lv' := [(5, .int (nI 0)), (4, .int (nI (wf M c 0))), (3, .int (nI (sh M (ow M 0) c c))), (2, .int (nI (pc4 (ow M 0) c))), (0, .ref c0), (1, .int (nI c))]) hx hb dL_isCousin_95 hl (by decide) rfl (fun ls hl => ?_)
    refine nr_const (v := 0) hx hb dL_isCousin_97 rfl ?_
    refine lv_istore (lv' := [(6, .int (nI 0)), (5, .int (nI 0)), (4, .int (nI (wf M c 0))), (3, .int (nI (sh M (ow M 0) c c))), (2, .int (nI (pc4 (ow M 0) c))), (0, .ref c0), (1, .int (nI c))]) hx hb dL_isCousin_98 hl (by decide) rfl (fun ls hl => ?_)
    refine nr_const (v := 0) hx hb dL_isCousin_100 rfl ?_
    refine lv_istore (lv' := [(7, .int (nI 0)), (6, .int (nI 0)), (5, .int (nI 0)), (4, .int (nI (wf M c 0))), (3, .int (nI (sh M (ow M 0) c c))), (2, .int (nI (pc4 (ow M 0) c))), (0, .ref c0), (1, .int (nI c))]) hx hb dL_isCousin_101 hl (by decide) rfl (fun ls hl => ?_)
    refine nr_const (v := 0) hx hb dL_isCousin_103 rfl ?_
    refine lv_istore (lv' := [(8, .int (nI 0)), (7, .int (nI 0)), (6, .int (nI 0)), (5, .int (nI 0)), (4, .int (nI (wf M c 0))), (3, .int (nI (sh M (ow M 0) c c))), (2, .int (nI (pc4 (ow M 0) c))), (0, .ref c0), (1, .int (nI c))]) hx hb dL_isCousin_104 hl (by decide) rfl (fun ls hl => ?_)
    refine nr_const (v := 0) hx hb dL_isCousin_106 rfl ?_
    refine lv_istore (lv' := [(9, .int (nI 0)), (8, .int (nI 0)), (7, .int (nI 0)), (6, .int (nI 0)), (5, .int (nI 0)), (4, .int (nI (wf M c 0))), (3, .int (nI (sh M (ow M 0) c c))), (2, .int (nI (pc4 (ow M 0) c))), (0, .ref c0), (1, .int (nI c))]) hx hb dL_isCousin_107 hl (by decide) rfl (fun ls hl => ?_)
    refine loop_o (T := Nat) (nL := 14) (fun d => d ≤ 7) (fun d => 7 - d) (fun d => [(9, .int (nI d)), (8, .int (nI 0)), (7, .int (nI (me M (ow M 0) c d))), (6, .int (nI (sm (fun j => ev M (ow M 0) c j) d))), (5, .int (nI (sm (fun j => gr M c j) d))), (4, .int (nI (wf M c 0))), (3, .int (nI (sh M (ow M 0) c c))), (2, .int (nI (pc4 (ow M 0) c))), (0, .ref c0), (1, .int (nI c))]) (fun d => q_OB G AA c0 hbd M hp) ?_ 0 (lv_sub hl [0, 1, 2, 3, 4, 5, 6, 7, 8, 9] rfl) hO hS (by omega)
    intro d ls H locs hl hO hS hi5 ih4
    have hi5_0 := hi5
    have hi5_0 : d ≤ 7 := hi5_0
    have hO : q_OB G AA c0 hbd M hp _ := hO
    have hl : lv_has ls 14 [(9, .int (nI d)), (8, .int (nI 0)), (7, .int (nI (me M (ow M 0) c d))), (6, .int (nI (sm (fun j => ev M (ow M 0) c j) d))), (5, .int (nI (sm (fun j => gr M c j) d))), (4, .int (nI (wf M c 0))), (3, .int (nI (sh M (ow M 0) c c))), (2, .int (nI (pc4 (ow M 0) c))), (0, .ref c0), (1, .int (nI c))] := hl
    have hme2 : me M (ow M 0) c d ≤ 14775 := me_le h0k hc (by omega)
    refine lv_iload hx hb dL_isCousin_109 (lv_at hl 0 rfl) ?_
    refine nr_bi (v := 7) hx hb dL_isCousin_111 (by decide +kernel) ?_
    refine br_ige (tgt := 302) hx hb dL_isCousin_113 (by decide) (by omega) (by decide) (fun h6 => ?_) (fun h6 => ?_)
    · skip
      have e2 : d = 7 := (by omega)
      subst e2
      have hl : lv_has ls 14 [(9, .int (nI 7)), (8, .int (nI 0)), (7, .int (nI (me M (ow M 0) c 7))), (6, .int (nI (sm (fun j => ev M (ow M 0) c j) 7))), (5, .int (nI (sm (fun j => gr M c j) 7))), (4, .int (nI (wf M c 0))), (3, .int (nI (sh M (ow M 0) c c))), (2, .int (nI (pc4 (ow M 0) c))), (0, .ref c0), (1, .int (nI c))] := hl
      have hl : lv_has ls 14 [(9, .int (nI 7)), (8, .int (nI 0)), (7, .int (nI (me M (ow M 0) c 7))), (6, .int (nI (sm (fun j => ev M (ow M 0) c j) 7))), (5, .int (nI (gs M c))), (4, .int (nI (wf M c 0))), (3, .int (nI (sh M (ow M 0) c c))), (2, .int (nI (pc4 (ow M 0) c))), (0, .ref c0), (1, .int (nI c))] := hl
      refine nr_const (v := 0) hx hb dL_isCousin_302 rfl ?_
      refine lv_istore (lv' := [(9, .int (nI 0)), (8, .int (nI 0)), (7, .int (nI (me M (ow M 0) c 7))), (6, .int (nI (sm (fun j => ev M (ow M 0) c j) 7))), (5, .int (nI (gs M c))), (4, .int (nI (wf M c 0))), (3, .int (nI (sh M (ow M 0) c c))), (2, .int (nI (pc4 (ow M 0) c))), (0, .ref c0), (1, .int (nI c))]) hx hb dL_isCousin_303 hl (by decide) rfl (fun ls hl => ?_)
      refine loop_o (T := Nat) (nL := 14) (fun e => e ≤ 7) (fun e => 7 - e) (fun e => [(9, .int (nI e)), (8, .int (nI (sm (fun j => bb (ahd M j c)) e))), (7, .int (nI (me M (ow M 0) c 7))), (6, .int (nI (sm (fun j => ev M (ow M 0) c j) 7))), (5, .int (nI (gs M c))), (4, .int (nI (wf M c 0))), (3, .int (nI (sh M (ow M 0) c c))), (2, .int (nI (pc4 (ow M 0) c))), (0, .ref c0), (1, .int (nI c))]) (fun e => q_OB G AA c0 hbd M hp) ?_ 0 (lv_sub hl [0, 1, 2, 3, 4, 5, 6, 7, 8, 9] rfl) hO hS (by omega)
      intro e ls H locs hl hO hS hi8 ih7
      have hi8_0 := hi8
      have hi8_0 : e ≤ 7 := hi8_0
      have hO : q_OB G AA c0 hbd M hp _ := hO
      have hl : lv_has ls 14 [(9, .int (nI e)), (8, .int (nI (sm (fun j => bb (ahd M j c)) e))), (7, .int (nI (me M (ow M 0) c 7))), (6, .int (nI (sm (fun j => ev M (ow M 0) c j) 7))), (5, .int (nI (gs M c))), (4, .int (nI (wf M c 0))), (3, .int (nI (sh M (ow M 0) c c))), (2, .int (nI (pc4 (ow M 0) c))), (0, .ref c0), (1, .int (nI c))] := hl
      refine lv_iload hx hb dL_isCousin_305 (lv_at hl 0 rfl) ?_
      refine nr_bi (v := 7) hx hb dL_isCousin_307 (by decide +kernel) ?_
      refine br_ige (tgt := 369) hx hb dL_isCousin_309 (by decide) (by omega) (by decide) (fun h9 => ?_) (fun h9 => ?_)
      · skip
        have e2 : e = 7 := (by omega)
        subst e2
        have hl : lv_has ls 14 [(9, .int (nI 7)), (8, .int (nI (sm (fun j => bb (ahd M j c)) 7))), (7, .int (nI (me M (ow M 0) c 7))), (6, .int (nI (sm (fun j => ev M (ow M 0) c j) 7))), (5, .int (nI (gs M c))), (4, .int (nI (wf M c 0))), (3, .int (nI (sh M (ow M 0) c c))), (2, .int (nI (pc4 (ow M 0) c))), (0, .ref c0), (1, .int (nI c))] := hl
        have hl : lv_has ls 14 [(9, .int (nI 7)), (8, .int (nI (pl M c))), (7, .int (nI (me M (ow M 0) c 7))), (6, .int (nI (sm (fun j => ev M (ow M 0) c j) 7))), (5, .int (nI (gs M c))), (4, .int (nI (wf M c 0))), (3, .int (nI (sh M (ow M 0) c c))), (2, .int (nI (pc4 (ow M 0) c))), (0, .ref c0), (1, .int (nI c))] := hl
        refine lv_aload_n hx hb dL_isCousin_369 rfl (lv_at hl 8 rfl) ?_
        refine lv_iload_n hx hb dL_isCousin_370 rfl (lv_at hl 9 rfl) ?_
        refine nr_const (v := 4) hx hb dL_isCousin_371 rfl ?_
        refine k_cousin ⟨hx, hb, hml, hown, hts⟩ (cwV 2 hts gL_isCousin_X5_cousin rfl rfl rfl (by decide +kernel) ⟨Nat.le_of_ble_eq_true rfl, Nat.le_of_ble_eq_true rfl⟩) hK hNW hAA  hO hS hl.1 (Nat.le_of_ble_eq_true rfl) dL_isCousin_372 ⟨Nat.zero_le _, Nat.zero_le _⟩ (fun H locs hO hS => ?_)
        have hO : q_OB G AA c0 hbd M hp _ := hO
        refine nr_top (y := nI (pc4 (ow M 0) c)) (cz_4 (by omega)) ?_
        refine lv_iload_n hx hb dL_isCousin_375 rfl (lv_at hl 7 rfl) ?_
        refine br_ine (tgt := 479) hx hb dL_isCousin_376 (by decide) (by omega) (by omega) (fun h10 => ?_) (fun h10 => ?_)
        · exact absurd rfl h10
        · skip
          refine lv_aload_n hx hb dL_isCousin_379 rfl (lv_at hl 8 rfl) ?_
          refine lv_iload_n hx hb dL_isCousin_380 rfl (lv_at hl 9 rfl) ?_
          refine nr_const (v := 5) hx hb dL_isCousin_381 rfl ?_
          refine k_cousin ⟨hx, hb, hml, hown, hts⟩ (cwV 2 hts gL_isCousin_X5_cousin rfl rfl rfl (by decide +kernel) ⟨Nat.le_of_ble_eq_true rfl, Nat.le_of_ble_eq_true rfl⟩) hK hNW hAA  hO hS hl.1 (Nat.le_of_ble_eq_true rfl) dL_isCousin_382 ⟨Nat.zero_le _, Nat.zero_le _⟩ (fun H locs hO hS => ?_)
          have hO : q_OB G AA c0 hbd M hp _ := hO
          refine nr_top (y := nI (sh M (ow M 0) c c)) (cz_5 (by omega)) ?_
          refine lv_iload_n hx hb dL_isCousin_385 rfl (lv_at hl 6 rfl) ?_
          refine br_ine (tgt := 479) hx hb dL_isCousin_386 (by decide) (by omega) (by omega) (fun h11 => ?_) (fun h11 => ?_)
          · exact absurd rfl h11
          · skip
            refine lv_aload_n hx hb dL_isCousin_389 rfl (lv_at hl 8 rfl) ?_
            refine lv_iload_n hx hb dL_isCousin_390 rfl (lv_at hl 9 rfl) ?_
            refine nr_bi (v := 6) hx hb dL_isCousin_391 (by decide +kernel) ?_
            refine k_cousin ⟨hx, hb, hml, hown, hts⟩ (cwV 2 hts gL_isCousin_X5_cousin rfl rfl rfl (by decide +kernel) ⟨Nat.le_of_ble_eq_true rfl, Nat.le_of_ble_eq_true rfl⟩) hK hNW hAA  hO hS hl.1 (Nat.le_of_ble_eq_true rfl) dL_isCousin_393 ⟨Nat.zero_le _, Nat.zero_le _⟩ (fun H locs hO hS => ?_)
            have hO : q_OB G AA c0 hbd M hp _ := hO
            refine nr_top (y := nI (wf M c 0)) (cz_6 (by omega)) ?_
            refine lv_iload hx hb dL_isCousin_396 (lv_at hl 5 rfl) ?_
            refine br_ine (tgt := 479) hx hb dL_isCousin_398 (by decide) (by omega) (by omega) (fun h12 => ?_) (fun h12 => ?_)
            · exact absurd rfl h12
            · skip
              refine lv_aload_n hx hb dL_isCousin_401 rfl (lv_at hl 8 rfl) ?_
              refine lv_iload_n hx hb dL_isCousin_402 rfl (lv_at hl 9 rfl) ?_
              refine nr_bi (v := 7) hx hb dL_isCousin_403 (by decide +kernel) ?_
              refine k_cousin ⟨hx, hb, hml, hown, hts⟩ (cwV 2 hts gL_isCousin_X5_cousin rfl rfl rfl (by decide +kernel) ⟨Nat.le_of_ble_eq_true rfl, Nat.le_of_ble_eq_true rfl⟩) hK hNW hAA  hO hS hl.1 (Nat.le_of_ble_eq_true rfl) dL_isCousin_405 ⟨Nat.zero_le _, Nat.zero_le _⟩ (fun H locs hO hS => ?_)
              have hO : q_OB G AA c0 hbd M hp _ := hO
              refine nr_top (y := nI (hnd M c)) (cz_7 (by omega)) ?_
              refine lv_iload hx hb dL_isCousin_408 (lv_at hl 5 rfl) ?_
              refine join_v (T := Nat) (J := 424) (nL := 14) (fun v => [(9, .int (nI 7)), (8, .int (nI (pl M c))), (7, .int (nI (me M (ow M 0) c 7))), (6, .int (nI (sm (fun j => ev M (ow M 0) c j) 7))), (5, .int (nI (gs M c))), (4, .int (nI (wf M c 0))), (3, .int (nI (sh M (ow M 0) c c))), (2, .int (nI (pc4 (ow M 0) c))), (0, .ref c0), (1, .int (nI c))]) (fun v => [.int (nI v), .int (nI (hnd M c))]) (fun v => v = (if (wf M c 0) = 0 then 0 else ((100 * (sh M (ow M 0) c c)) / (wf M c 0)))) ?_ (fun jj13 => ?_)
              · intro v ls hl hv14
                subst hv14
                refine nr_top (y := nI (hnd M c)) (rfl) ?_
                refine br_ine (tgt := 479) hx hb dL_isCousin_424 (by decide) (by omega) (by omega) (fun h15 => ?_) (fun h15 => ?_)
                · exact absurd rfl h15
                · skip
                  refine lv_aload_n hx hb dL_isCousin_427 rfl (lv_at hl 8 rfl) ?_
                  refine lv_iload_n hx hb dL_isCousin_428 rfl (lv_at hl 9 rfl) ?_
                  refine nr_bi (v := 8) hx hb dL_isCousin_429 (by decide +kernel) ?_
                  refine k_cousin ⟨hx, hb, hml, hown, hts⟩ (cwV 2 hts gL_isCousin_X5_cousin rfl rfl rfl (by decide +kernel) ⟨Nat.le_of_ble_eq_true rfl, Nat.le_of_ble_eq_true rfl⟩) hK hNW hAA  hO hS hl.1 (Nat.le_of_ble_eq_true rfl) dL_isCousin_431 ⟨Nat.zero_le _, Nat.zero_le _⟩ (fun H locs hO hS => ?_)
                  have hO : q_OB G AA c0 hbd M hp _ := hO
                  refine nr_top (y := nI (gs M c)) (cz_8 (by omega)) ?_
                  refine lv_iload hx hb dL_isCousin_434 (lv_at hl 4 rfl) ?_
                  refine br_ine (tgt := 479) hx hb dL_isCousin_436 (by decide) (by omega) (by omega) (fun h16 => ?_) (fun h16 => ?_)
                  · exact absurd rfl h16
                  · skip
                    refine lv_aload_n hx hb dL_isCousin_439 rfl (lv_at hl 8 rfl) ?_
                    refine lv_iload_n hx hb dL_isCousin_440 rfl (lv_at hl 9 rfl) ?_
                    refine nr_bi (v := 9) hx hb dL_isCousin_441 (by decide +kernel) ?_
                    refine k_cousin ⟨hx, hb, hml, hown, hts⟩ (cwV 2 hts gL_isCousin_X5_cousin rfl rfl rfl (by decide +kernel) ⟨Nat.le_of_ble_eq_true rfl, Nat.le_of_ble_eq_true rfl⟩) hK hNW hAA  hO hS hl.1 (Nat.le_of_ble_eq_true rfl) dL_isCousin_443 ⟨Nat.zero_le _, Nat.zero_le _⟩ (fun H locs hO hS => ?_)
                    have hO : q_OB G AA c0 hbd M hp _ := hO
                    refine nr_top (y := nI (es M (ow M 0) (2 ^ c) 127)) (cz_9 (by omega)) ?_
                    refine nr_top (y := nI (sm (fun j => ev M (ow M 0) c j) 7)) (congrArg nI (es_9 M (ow M 0) hc)) ?_
                    refine lv_iload hx hb dL_isCousin_446 (lv_at hl 3 rfl) ?_
                    refine br_ine (tgt := 479) hx hb dL_isCousin_448 (by decide) (by omega) (by omega) (fun h17 => ?_) (fun h17 => ?_)
                    · exact absurd rfl h17
                    · skip
                      refine lv_aload_n hx hb dL_isCousin_451 rfl (lv_at hl 8 rfl) ?_
                      refine lv_iload_n hx hb dL_isCousin_452 rfl (lv_at hl 9 rfl) ?_
                      refine nr_bi (v := 10) hx hb dL_isCousin_453 (by decide +kernel) ?_
                      refine k_cousin ⟨hx, hb, hml, hown, hts⟩ (cwV 2 hts gL_isCousin_X5_cousin rfl rfl rfl (by decide +kernel) ⟨Nat.le_of_ble_eq_true rfl, Nat.le_of_ble_eq_true rfl⟩) hK hNW hAA  hO hS hl.1 (Nat.le_of_ble_eq_true rfl) dL_isCousin_455 ⟨Nat.zero_le _, Nat.zero_le _⟩ (fun H locs hO hS => ?_)
                      have hO : q_OB G AA c0 hbd M hp _ := hO
                      refine nr_top (y := nI (me M (ow M 0) c 7)) (cz_10 (by omega)) ?_
                      refine lv_iload hx hb dL_isCousin_458 (lv_at hl 2 rfl) ?_
                      refine br_ine (tgt := 479) hx hb dL_isCousin_460 (by decide) (by omega) (by omega) (fun h18 => ?_) (fun h18 => ?_)
                      · exact absurd rfl h18
                      · skip
                        refine lv_aload_n hx hb dL_isCousin_463 rfl (lv_at hl 8 rfl) ?_
                        refine lv_iload_n hx hb dL_isCousin_464 rfl (lv_at hl 9 rfl) ?_
                        refine nr_bi (v := 12) hx hb dL_isCousin_465 (by decide +kernel) ?_
                        refine k_cousin ⟨hx, hb, hml, hown, hts⟩ (cwV 2 hts gL_isCousin_X5_cousin rfl rfl rfl (by decide +kernel) ⟨Nat.le_of_ble_eq_true rfl, Nat.le_of_ble_eq_true rfl⟩) hK hNW hAA  hO hS hl.1 (Nat.le_of_ble_eq_true rfl) dL_isCousin_467 ⟨Nat.zero_le _, Nat.zero_le _⟩ (fun H locs hO hS => ?_)
                        have hO : q_OB G AA c0 hbd M hp _ := hO
                        refine nr_top (y := nI (pl M c)) (cz_12 (by omega)) ?_
                        refine lv_iload hx hb dL_isCousin_470 (lv_at hl 1 rfl) ?_
                        refine br_ine (tgt := 479) hx hb dL_isCousin_472 (by decide) (by omega) (by omega) (fun h19 => ?_) (fun h19 => ?_)
                        · exact absurd rfl h19
                        · skip
                          refine nr_const (v := 1) hx hb dL_isCousin_475 rfl ?_
                          refine lv_goto (tgt := 480) hx hb dL_isCousin_476 (by decide) ?_
                          exact obretz (post := fun (r : Int32) (u : Unit) => r = nI 1 ∧ (True)) (ob := fun (u : Unit) => q_OB G AA c0 hbd M hp) hx hb hr hlk hS (()) (hO) ⟨rfl, trivial⟩ dL_isCousin_480
              · skip
                refine br_ne0 (tgt := 417) hx hb dL_isCousin_410 (by decide) (by omega) (fun h20 => ?_) (fun h20 => ?_)
                · skip
                  refine nr_bi (v := 100) hx hb dL_isCousin_417 (by decide +kernel) ?_
                  refine lv_iload_n hx hb dL_isCousin_419 rfl (lv_at hl 6 rfl) ?_
                  refine nr_mul hx hb dL_isCousin_420 ?_
                  refine lv_iload hx hb dL_isCousin_421 (lv_at hl 5 rfl) ?_
                  refine nr_div hx hb dL_isCousin_423 (by omega) (by omega) (by omega) ?_
                  exact jj13 ((100 * (sh M (ow M 0) c c)) / (wf M c 0)) ls (lv_sub hl [0, 1, 2, 3, 4, 5, 6, 7, 8, 9] rfl) (by simp only [if_neg h20])
                · skip
                  refine nr_const (v := 0) hx hb dL_isCousin_413 rfl ?_
                  refine lv_goto (tgt := 424) hx hb dL_isCousin_414 (by decide) ?_
                  exact jj13 0 ls (lv_sub hl [0, 1, 2, 3, 4, 5, 6, 7, 8, 9] rfl) (by simp only [if_pos h20])
      · skip
        refine lv_aload_n hx hb dL_isCousin_312 rfl (lv_at hl 8 rfl) ?_
        refine nr_const (v := 0) hx hb dL_isCousin_313 rfl ?_
        refine k_total ⟨hx, hb, hml, hown, hts⟩ (cwV 1 hts gL_isCousin_X5_total rfl rfl rfl (by decide +kernel) ⟨Nat.le_of_ble_eq_true rfl, Nat.le_of_ble_eq_true rfl⟩) hK hNW hAA (by decide) hO hS hl.1 (Nat.le_of_ble_eq_true rfl) dL_isCousin_314 ⟨Nat.zero_le _, Nat.zero_le _⟩ (fun H locs hO hS => ?_)
        have hO : q_OB G AA c0 hbd M hp _ := hO
        refine nr_top (y := nI (M 197)) (to_0) ?_
        refine br_ne0 (tgt := 324) hx hb dL_isCousin_317 (by decide) (by omega) (fun h21 => ?_) (fun h21 => ?_)
        · skip
          refine lv_aload_n hx hb dL_isCousin_324 rfl (lv_at hl 8 rfl) ?_
          refine lv_iload hx hb dL_isCousin_325 (lv_at hl 0 rfl) ?_
          refine nr_bi (v := 8) hx hb dL_isCousin_327 (by decide +kernel) ?_
          refine k_cousin ⟨hx, hb, hml, hown, hts⟩ (cwV 2 hts gL_isCousin_X5_cousin rfl rfl rfl (by decide +kernel) ⟨Nat.le_of_ble_eq_true rfl, Nat.le_of_ble_eq_true rfl⟩) hK hNW hAA  hO hS hl.1 (Nat.le_of_ble_eq_true rfl) dL_isCousin_329 ⟨Nat.zero_le _, Nat.zero_le _⟩ (fun H locs hO hS => ?_)
          have hO : q_OB G AA c0 hbd M hp _ := hO
          refine nr_top (y := nI (gs M e)) (cz_8 (by omega)) ?_
          refine lv_iload hx hb dL_isCousin_332 (lv_at hl 4 rfl) ?_
          refine lv_isub hx hb dL_isCousin_334 ?_
          refine lv_istore (lv' := [(10, .int ((nI (gs M e)) - (nI (gs M c)))), (9, .int (nI e)), (8, .int (nI (sm (fun j => bb (ahd M j c)) e))), (7, .int (nI (me M (ow M 0) c 7))), (6, .int (nI (sm (fun j => ev M (ow M 0) c j) 7))), (5, .int (nI (gs M c))), (4, .int (nI (wf M c 0))), (3, .int (nI (sh M (ow M 0) c c))), (2, .int (nI (pc4 (ow M 0) c))), (0, .ref c0), (1, .int (nI c))]) hx hb dL_isCousin_335 hl (by decide) rfl (fun ls hl => ?_)
          have hg2 := gs_le h0k (show e < 7 by omega)
          have hsp := @sub_pos (gs M e) (gs M c) (by omega) (by omega)
          have hsz := @sub_zero (gs M e) (gs M c) (by omega) (by omega)
          refine lv_iload hx hb dL_isCousin_337 (lv_at hl 2 rfl) ?_
          refine lv_iload hx hb dL_isCousin_339 (lv_at hl 0 rfl) ?_
          refine lv_if_gt (tgt := 355) hx hb dL_isCousin_341 (by decide) (fun h22 => ?_) (fun h22 => ?_)
          · skip
            refine nr_const (v := 1) hx hb dL_isCousin_355 rfl ?_
            refine lv_goto (tgt := 360) hx hb dL_isCousin_356 (by decide) ?_
            refine nr_top (congrArg nI (bb_t (P := ahd M e c) (by show (M 197 = 0 ∧ e < c) ∨ (¬ M 197 = 0 ∧ (gs M c < gs M e ∨ (gs M e = gs M c ∧ e < c))); first | (exact Or.inl ⟨by assumption, by omega⟩) | (exact Or.inr ⟨by assumption, Or.inl (hsp.mp (by assumption))⟩) | (exact Or.inr ⟨by assumption, Or.inr ⟨hsz.mp (by assumption), by omega⟩⟩))).symm) ?_
            refine nr_add hx hb dL_isCousin_360 ?_
            refine lv_istore (lv' := [(8, .int (nI ((sm (fun j => bb (ahd M j c)) e) + (bb (ahd M e c))))), (10, .int ((nI (gs M e)) - (nI (gs M c)))), (9, .int (nI e)), (7, .int (nI (me M (ow M 0) c 7))), (6, .int (nI (sm (fun j => ev M (ow M 0) c j) 7))), (5, .int (nI (gs M c))), (4, .int (nI (wf M c 0))), (3, .int (nI (sh M (ow M 0) c c))), (2, .int (nI (pc4 (ow M 0) c))), (0, .ref c0), (1, .int (nI c))]) hx hb dL_isCousin_361 hl (by decide) rfl (fun ls hl => ?_)
            refine nr_inc (d := 1) (v := e + 1) (lv' := [(9, .int (nI (e + 1))), (8, .int (nI ((sm (fun j => bb (ahd M j c)) e) + (bb (ahd M e c))))), (10, .int ((nI (gs M e)) - (nI (gs M c)))), (7, .int (nI (me M (ow M 0) c 7))), (6, .int (nI (sm (fun j => ev M (ow M 0) c j) 7))), (5, .int (nI (gs M c))), (4, .int (nI (wf M c 0))), (3, .int (nI (sh M (ow M 0) c c))), (2, .int (nI (pc4 (ow M 0) c))), (0, .ref c0), (1, .int (nI c))]) hx hb dL_isCousin_363 hl (k := 2) rfl rfl (by decide) rfl (fun ls hl => ?_)
            refine lv_goto (tgt := 305) hx hb dL_isCousin_366 (by decide) ?_
            exact ih7 (e + 1) ls H locs (lv_sub hl [0, 1, 3, 4, 5, 6, 7, 8, 9, 10] rfl) hO hS (by omega) (by omega)
          · skip
            refine lv_iload hx hb dL_isCousin_344 (lv_at hl 0 rfl) ?_
            refine lv_if_ne (tgt := 359) hx hb dL_isCousin_346 (by decide) (fun h23 => ?_) (fun h23 => ?_)
            · skip
              refine nr_const (v := 0) hx hb dL_isCousin_359 rfl ?_
              refine nr_top (congrArg nI (bb_f (P := ahd M e c) (fun q => by rcases q with ⟨q1, q2⟩ | ⟨q1, q2 | ⟨q2, q3⟩⟩ <;> first | omega | exact absurd (hsp.mpr q2) (by assumption) | exact absurd (hsz.mpr q2) (by assumption))).symm) ?_
              refine nr_add hx hb dL_isCousin_360 ?_
              refine lv_istore (lv' := [(8, .int (nI ((sm (fun j => bb (ahd M j c)) e) + (bb (ahd M e c))))), (10, .int ((nI (gs M e)) - (nI (gs M c)))), (9, .int (nI e)), (7, .int (nI (me M (ow M 0) c 7))), (6, .int (nI (sm (fun j => ev M (ow M 0) c j) 7))), (5, .int (nI (gs M c))), (4, .int (nI (wf M c 0))), (3, .int (nI (sh M (ow M 0) c c))), (2, .int (nI (pc4 (ow M 0) c))), (0, .ref c0), (1, .int (nI c))]) hx hb dL_isCousin_361 hl (by decide) rfl (fun ls hl => ?_)
              refine nr_inc (d := 1) (v := e + 1) (lv' := [(9, .int (nI (e + 1))), (8, .int (nI ((sm (fun j => bb (ahd M j c)) e) + (bb (ahd M e c))))), (10, .int ((nI (gs M e)) - (nI (gs M c)))), (7, .int (nI (me M (ow M 0) c 7))), (6, .int (nI (sm (fun j => ev M (ow M 0) c j) 7))), (5, .int (nI (gs M c))), (4, .int (nI (wf M c 0))), (3, .int (nI (sh M (ow M 0) c c))), (2, .int (nI (pc4 (ow M 0) c))), (0, .ref c0), (1, .int (nI c))]) hx hb dL_isCousin_363 hl (k := 2) rfl rfl (by decide) rfl (fun ls hl => ?_)
              refine lv_goto (tgt := 305) hx hb dL_isCousin_366 (by decide) ?_
              exact ih7 (e + 1) ls H locs (lv_sub hl [0, 1, 3, 4, 5, 6, 7, 8, 9, 10] rfl) hO hS (by omega) (by omega)
            · skip
              refine lv_iload hx hb dL_isCousin_349 (lv_at hl 1 rfl) ?_
              refine lv_iload_n hx hb dL_isCousin_351 rfl (lv_at hl 10 rfl) ?_
              refine br_ige (tgt := 359) hx hb dL_isCousin_352 (by decide) (by omega) (by omega) (fun h24 => ?_) (fun h24 => ?_)
              · skip
                refine nr_const (v := 0) hx hb dL_isCousin_359 rfl ?_
                refine nr_top (congrArg nI (bb_f (P := ahd M e c) (fun q => by rcases q with ⟨q1, q2⟩ | ⟨q1, q2 | ⟨q2, q3⟩⟩ <;> first | omega | exact absurd (hsp.mpr q2) (by assumption) | exact absurd (hsz.mpr q2) (by assumption))).symm) ?_
                refine nr_add hx hb dL_isCousin_360 ?_
                refine lv_istore (lv' := [(8, .int (nI ((sm (fun j => bb (ahd M j c)) e) + (bb (ahd M e c))))), (10, .int ((nI (gs M e)) - (nI (gs M c)))), (9, .int (nI e)), (7, .int (nI (me M (ow M 0) c 7))), (6, .int (nI (sm (fun j => ev M (ow M 0) c j) 7))), (5, .int (nI (gs M c))), (4, .int (nI (wf M c 0))), (3, .int (nI (sh M (ow M 0) c c))), (2, .int (nI (pc4 (ow M 0) c))), (0, .ref c0), (1, .int (nI c))]) hx hb dL_isCousin_361 hl (by decide) rfl (fun ls hl => ?_)
                refine nr_inc (d := 1) (v := e + 1) (lv' := [(9, .int (nI (e + 1))), (8, .int (nI ((sm (fun j => bb (ahd M j c)) e) + (bb (ahd M e c))))), (10, .int ((nI (gs M e)) - (nI (gs M c)))), (7, .int (nI (me M (ow M 0) c 7))), (6, .int (nI (sm (fun j => ev M (ow M 0) c j) 7))), (5, .int (nI (gs M c))), (4, .int (nI (wf M c 0))), (3, .int (nI (sh M (ow M 0) c c))), (2, .int (nI (pc4 (ow M 0) c))), (0, .ref c0), (1, .int (nI c))]) hx hb dL_isCousin_363 hl (k := 2) rfl rfl (by decide) rfl (fun ls hl => ?_)
                refine lv_goto (tgt := 305) hx hb dL_isCousin_366 (by decide) ?_
                exact ih7 (e + 1) ls H locs (lv_sub hl [0, 1, 3, 4, 5, 6, 7, 8, 9, 10] rfl) hO hS (by omega) (by omega)
              · skip
                refine nr_const (v := 1) hx hb dL_isCousin_355 rfl ?_
                refine lv_goto (tgt := 360) hx hb dL_isCousin_356 (by decide) ?_
                refine nr_top (congrArg nI (bb_t (P := ahd M e c) (by show (M 197 = 0 ∧ e < c) ∨ (¬ M 197 = 0 ∧ (gs M c < gs M e ∨ (gs M e = gs M c ∧ e < c))); first | (exact Or.inl ⟨by assumption, by omega⟩) | (exact Or.inr ⟨by assumption, Or.inl (hsp.mp (by assumption))⟩) | (exact Or.inr ⟨by assumption, Or.inr ⟨hsz.mp (by assumption), by omega⟩⟩))).symm) ?_
                refine nr_add hx hb dL_isCousin_360 ?_
                refine lv_istore (lv' := [(8, .int (nI ((sm (fun j => bb (ahd M j c)) e) + (bb (ahd M e c))))), (10, .int ((nI (gs M e)) - (nI (gs M c)))), (9, .int (nI e)), (7, .int (nI (me M (ow M 0) c 7))), (6, .int (nI (sm (fun j => ev M (ow M 0) c j) 7))), (5, .int (nI (gs M c))), (4, .int (nI (wf M c 0))), (3, .int (nI (sh M (ow M 0) c c))), (2, .int (nI (pc4 (ow M 0) c))), (0, .ref c0), (1, .int (nI c))]) hx hb dL_isCousin_361 hl (by decide) rfl (fun ls hl => ?_)
                refine nr_inc (d := 1) (v := e + 1) (lv' := [(9, .int (nI (e + 1))), (8, .int (nI ((sm (fun j => bb (ahd M j c)) e) + (bb (ahd M e c))))), (10, .int ((nI (gs M e)) - (nI (gs M c)))), (7, .int (nI (me M (ow M 0) c 7))), (6, .int (nI (sm (fun j => ev M (ow M 0) c j) 7))), (5, .int (nI (gs M c))), (4, .int (nI (wf M c 0))), (3, .int (nI (sh M (ow M 0) c c))), (2, .int (nI (pc4 (ow M 0) c))), (0, .ref c0), (1, .int (nI c))]) hx hb dL_isCousin_363 hl (k := 2) rfl rfl (by decide) rfl (fun ls hl => ?_)
                refine lv_goto (tgt := 305) hx hb dL_isCousin_366 (by decide) ?_
                exact ih7 (e + 1) ls H locs (lv_sub hl [0, 1, 3, 4, 5, 6, 7, 8, 9, 10] rfl) hO hS (by omega) (by omega)
        · skip
          refine nr_const (v := 0) hx hb dL_isCousin_320 rfl ?_
          refine lv_goto (tgt := 335) hx hb dL_isCousin_321 (by decide) ?_
          refine lv_istore (lv' := [(10, .int (nI 0)), (9, .int (nI e)), (8, .int (nI (sm (fun j => bb (ahd M j c)) e))), (7, .int (nI (me M (ow M 0) c 7))), (6, .int (nI (sm (fun j => ev M (ow M 0) c j) 7))), (5, .int (nI (gs M c))), (4, .int (nI (wf M c 0))), (3, .int (nI (sh M (ow M 0) c c))), (2, .int (nI (pc4 (ow M 0) c))), (0, .ref c0), (1, .int (nI c))]) hx hb dL_isCousin_335 hl (by decide) rfl (fun ls hl => ?_)
          have hg2 := gs_le h0k (show e < 7 by omega)
          have hsp := @sub_pos (gs M e) (gs M c) (by omega) (by omega)
          have hsz := @sub_zero (gs M e) (gs M c) (by omega) (by omega)
          refine lv_iload hx hb dL_isCousin_337 (lv_at hl 2 rfl) ?_
          refine lv_iload hx hb dL_isCousin_339 (lv_at hl 0 rfl) ?_
          refine br_gt0 (tgt := 355) hx hb dL_isCousin_341 (by decide) (by decide) (fun h25 => ?_) (fun h25 => ?_)
          · exact absurd h25 (by decide)
          · skip
            refine lv_iload hx hb dL_isCousin_344 (lv_at hl 0 rfl) ?_
            refine br_ne0 (tgt := 359) hx hb dL_isCousin_346 (by decide) (by decide) (fun h26 => ?_) (fun h26 => ?_)
            · exact absurd (by decide) h26
            · skip
              refine lv_iload hx hb dL_isCousin_349 (lv_at hl 1 rfl) ?_
              refine lv_iload_n hx hb dL_isCousin_351 rfl (lv_at hl 10 rfl) ?_
              refine br_ige (tgt := 359) hx hb dL_isCousin_352 (by decide) (by omega) (by omega) (fun h27 => ?_) (fun h27 => ?_)
              · skip
                refine nr_const (v := 0) hx hb dL_isCousin_359 rfl ?_
                refine nr_top (congrArg nI (bb_f (P := ahd M e c) (fun q => by rcases q with ⟨q1, q2⟩ | ⟨q1, q2 | ⟨q2, q3⟩⟩ <;> first | omega | exact absurd (hsp.mpr q2) (by assumption) | exact absurd (hsz.mpr q2) (by assumption))).symm) ?_
                refine nr_add hx hb dL_isCousin_360 ?_
                refine lv_istore (lv' := [(8, .int (nI ((sm (fun j => bb (ahd M j c)) e) + (bb (ahd M e c))))), (10, .int (nI 0)), (9, .int (nI e)), (7, .int (nI (me M (ow M 0) c 7))), (6, .int (nI (sm (fun j => ev M (ow M 0) c j) 7))), (5, .int (nI (gs M c))), (4, .int (nI (wf M c 0))), (3, .int (nI (sh M (ow M 0) c c))), (2, .int (nI (pc4 (ow M 0) c))), (0, .ref c0), (1, .int (nI c))]) hx hb dL_isCousin_361 hl (by decide) rfl (fun ls hl => ?_)
                refine nr_inc (d := 1) (v := e + 1) (lv' := [(9, .int (nI (e + 1))), (8, .int (nI ((sm (fun j => bb (ahd M j c)) e) + (bb (ahd M e c))))), (10, .int (nI 0)), (7, .int (nI (me M (ow M 0) c 7))), (6, .int (nI (sm (fun j => ev M (ow M 0) c j) 7))), (5, .int (nI (gs M c))), (4, .int (nI (wf M c 0))), (3, .int (nI (sh M (ow M 0) c c))), (2, .int (nI (pc4 (ow M 0) c))), (0, .ref c0), (1, .int (nI c))]) hx hb dL_isCousin_363 hl (k := 2) rfl rfl (by decide) rfl (fun ls hl => ?_)
                refine lv_goto (tgt := 305) hx hb dL_isCousin_366 (by decide) ?_
                exact ih7 (e + 1) ls H locs (lv_sub hl [0, 1, 3, 4, 5, 6, 7, 8, 9, 10] rfl) hO hS (by omega) (by omega)
              · skip
                refine nr_const (v := 1) hx hb dL_isCousin_355 rfl ?_
                refine lv_goto (tgt := 360) hx hb dL_isCousin_356 (by decide) ?_
                refine nr_top (congrArg nI (bb_t (P := ahd M e c) (by show (M 197 = 0 ∧ e < c) ∨ (¬ M 197 = 0 ∧ (gs M c < gs M e ∨ (gs M e = gs M c ∧ e < c))); first | (exact Or.inl ⟨by assumption, by omega⟩) | (exact Or.inr ⟨by assumption, Or.inl (hsp.mp (by assumption))⟩) | (exact Or.inr ⟨by assumption, Or.inr ⟨hsz.mp (by assumption), by omega⟩⟩))).symm) ?_
                refine nr_add hx hb dL_isCousin_360 ?_
                refine lv_istore (lv' := [(8, .int (nI ((sm (fun j => bb (ahd M j c)) e) + (bb (ahd M e c))))), (10, .int (nI 0)), (9, .int (nI e)), (7, .int (nI (me M (ow M 0) c 7))), (6, .int (nI (sm (fun j => ev M (ow M 0) c j) 7))), (5, .int (nI (gs M c))), (4, .int (nI (wf M c 0))), (3, .int (nI (sh M (ow M 0) c c))), (2, .int (nI (pc4 (ow M 0) c))), (0, .ref c0), (1, .int (nI c))]) hx hb dL_isCousin_361 hl (by decide) rfl (fun ls hl => ?_)
                refine nr_inc (d := 1) (v := e + 1) (lv' := [(9, .int (nI (e + 1))), (8, .int (nI ((sm (fun j => bb (ahd M j c)) e) + (bb (ahd M e c))))), (10, .int (nI 0)), (7, .int (nI (me M (ow M 0) c 7))), (6, .int (nI (sm (fun j => ev M (ow M 0) c j) 7))), (5, .int (nI (gs M c))), (4, .int (nI (wf M c 0))), (3, .int (nI (sh M (ow M 0) c c))), (2, .int (nI (pc4 (ow M 0) c))), (0, .ref c0), (1, .int (nI c))]) hx hb dL_isCousin_363 hl (k := 2) rfl rfl (by decide) rfl (fun ls hl => ?_)
                refine lv_goto (tgt := 305) hx hb dL_isCousin_366 (by decide) ?_
                exact ih7 (e + 1) ls H locs (lv_sub hl [0, 1, 3, 4, 5, 6, 7, 8, 9, 10] rfl) hO hS (by omega) (by omega)
    · skip
      refine lv_iload hx hb dL_isCousin_116 (lv_at hl 0 rfl) ?_
      refine lv_iload_n hx hb dL_isCousin_118 rfl (lv_at hl 9 rfl) ?_
      refine br_ine (tgt := 125) hx hb dL_isCousin_119 (by decide) (by omega) (by omega) (fun h28 => ?_) (fun h28 => ?_)
      · skip
        have hg9 := gr_le h0k hc (show d < 7 by omega)
        have hs1 : sh M (ow M 0) c d ≤ 7776 := sh_le h0k hc
        have hse := se_le (O := ow M 0) h0k hc (show d < 7 by omega)
        have hev := ev_le (O := ow M 0) h0k hc (show d < 7 by omega)
        refine lv_aload_n hx hb dL_isCousin_125 rfl (lv_at hl 8 rfl) ?_
        refine lv_iload_n hx hb dL_isCousin_126 rfl (lv_at hl 9 rfl) ?_
        refine lv_iload hx hb dL_isCousin_127 (lv_at hl 0 rfl) ?_
        refine nr_const (v := 0) hx hb dL_isCousin_129 rfl ?_
        refine k_pair ⟨hx, hb, hml, hown, hts⟩ (cwV 3 hts gL_isCousin_X5_pair rfl rfl rfl (by decide +kernel) ⟨Nat.le_of_ble_eq_true rfl, Nat.le_of_ble_eq_true rfl⟩) hK hNW hAA  hO hS hl.1 (Nat.le_of_ble_eq_true rfl) dL_isCousin_130 ⟨Nat.zero_le _, Nat.zero_le _⟩ (fun H locs hO hS => ?_)
        have hO : q_OB G AA c0 hbd M hp _ := hO
        refine nr_top (y := nI (gr M c d)) (pa_0 (by omega) (by omega) (by omega)) ?_
        refine lv_istore (lv' := [(10, .int (nI (gr M c d))), (9, .int (nI d)), (8, .int (nI 0)), (7, .int (nI (me M (ow M 0) c d))), (6, .int (nI (sm (fun j => ev M (ow M 0) c j) d))), (5, .int (nI (sm (fun j => gr M c j) d))), (4, .int (nI (wf M c 0))), (3, .int (nI (sh M (ow M 0) c c))), (2, .int (nI (pc4 (ow M 0) c))), (0, .ref c0), (1, .int (nI c))]) hx hb dL_isCousin_133 hl (by decide) rfl (fun ls hl => ?_)
        refine nr_const (v := 0) hx hb dL_isCousin_135 rfl ?_
        refine lv_istore (lv' := [(11, .int (nI 0)), (10, .int (nI (gr M c d))), (9, .int (nI d)), (8, .int (nI 0)), (7, .int (nI (me M (ow M 0) c d))), (6, .int (nI (sm (fun j => ev M (ow M 0) c j) d))), (5, .int (nI (sm (fun j => gr M c j) d))), (4, .int (nI (wf M c 0))), (3, .int (nI (sh M (ow M 0) c c))), (2, .int (nI (pc4 (ow M 0) c))), (0, .ref c0), (1, .int (nI c))]) hx hb dL_isCousin_136 hl (by decide) rfl (fun ls hl => ?_)
        refine nr_const (v := 0) hx hb dL_isCousin_138 rfl ?_
        refine lv_istore (lv' := [(12, .int (nI 0)), (11, .int (nI 0)), (10, .int (nI (gr M c d))), (9, .int (nI d)), (8, .int (nI 0)), (7, .int (nI (me M (ow M 0) c d))), (6, .int (nI (sm (fun j => ev M (ow M 0) c j) d))), (5, .int (nI (sm (fun j => gr M c j) d))), (4, .int (nI (wf M c 0))), (3, .int (nI (sh M (ow M 0) c c))), (2, .int (nI (pc4 (ow M 0) c))), (0, .ref c0), (1, .int (nI c))]) hx hb dL_isCousin_139 hl (by decide) rfl (fun ls hl => ?_)
        refine loop_o (T := Nat) (nL := 14) (fun k2 => k2 ≤ 24) (fun k2 => 24 - k2) (fun k2 => [(12, .int (nI k2)), (11, .int (nI (sm (fun j => if ow M 0 j = d then wr M c j else 0) k2))), (10, .int (nI (gr M c d))), (9, .int (nI d)), (8, .int (nI 0)), (7, .int (nI (me M (ow M 0) c d))), (6, .int (nI (sm (fun j => ev M (ow M 0) c j) d))), (5, .int (nI (sm (fun j => gr M c j) d))), (4, .int (nI (wf M c 0))), (3, .int (nI (sh M (ow M 0) c c))), (2, .int (nI (pc4 (ow M 0) c))), (0, .ref c0), (1, .int (nI c))]) (fun k2 => q_OB G AA c0 hbd M hp) ?_ 0 (lv_sub hl [0, 1, 2, 3, 4, 5, 6, 7, 8, 9, 10, 11, 12] rfl) hO hS (by omega)
        intro k2 ls H locs hl hO hS hi30 ih29
        have hi30_0 := hi30
        have hi30_0 : k2 ≤ 24 := hi30_0
        have hO : q_OB G AA c0 hbd M hp _ := hO
        have hl : lv_has ls 14 [(12, .int (nI k2)), (11, .int (nI (sm (fun j => if ow M 0 j = d then wr M c j else 0) k2))), (10, .int (nI (gr M c d))), (9, .int (nI d)), (8, .int (nI 0)), (7, .int (nI (me M (ow M 0) c d))), (6, .int (nI (sm (fun j => ev M (ow M 0) c j) d))), (5, .int (nI (sm (fun j => gr M c j) d))), (4, .int (nI (wf M c 0))), (3, .int (nI (sh M (ow M 0) c c))), (2, .int (nI (pc4 (ow M 0) c))), (0, .ref c0), (1, .int (nI c))] := hl
        refine lv_iload hx hb dL_isCousin_141 (lv_at hl 0 rfl) ?_
        refine nr_bi (v := 24) hx hb dL_isCousin_143 (by decide +kernel) ?_
        refine br_ige (tgt := 184) hx hb dL_isCousin_145 (by decide) (by omega) (by decide) (fun h31 => ?_) (fun h31 => ?_)
        · skip
          have e2 : k2 = 24 := (by omega)
          subst e2
          have hl : lv_has ls 14 [(12, .int (nI 24)), (11, .int (nI (sm (fun j => if ow M 0 j = d then wr M c j else 0) 24))), (10, .int (nI (gr M c d))), (9, .int (nI d)), (8, .int (nI 0)), (7, .int (nI (me M (ow M 0) c d))), (6, .int (nI (sm (fun j => ev M (ow M 0) c j) d))), (5, .int (nI (sm (fun j => gr M c j) d))), (4, .int (nI (wf M c 0))), (3, .int (nI (sh M (ow M 0) c c))), (2, .int (nI (pc4 (ow M 0) c))), (0, .ref c0), (1, .int (nI c))] := hl
          have hl : lv_has ls 14 [(12, .int (nI 24)), (11, .int (nI (sh M (ow M 0) c d))), (10, .int (nI (gr M c d))), (9, .int (nI d)), (8, .int (nI 0)), (7, .int (nI (me M (ow M 0) c d))), (6, .int (nI (sm (fun j => ev M (ow M 0) c j) d))), (5, .int (nI (sm (fun j => gr M c j) d))), (4, .int (nI (wf M c 0))), (3, .int (nI (sh M (ow M 0) c c))), (2, .int (nI (pc4 (ow M 0) c))), (0, .ref c0), (1, .int (nI c))] := hl
          refine lv_iload hx hb dL_isCousin_184 (lv_at hl 1 rfl) ?_
          refine nr_bi (v := 10) hx hb dL_isCousin_186 (by decide +kernel) ?_
          refine lv_iload hx hb dL_isCousin_188 (lv_at hl 2 rfl) ?_
          refine nr_add hx hb dL_isCousin_190 ?_
          refine nr_mul hx hb dL_isCousin_191 ?_
          refine nr_bi (v := 10) hx hb dL_isCousin_192 (by decide +kernel) ?_
          refine nr_div hx hb dL_isCousin_194 (Nat.lt_of_le_of_lt (sx_le h0k hc (by omega)) (by decide)) (by decide) (by decide) ?_
          refine nr_top (y := nI (se M (ow M 0) c d)) (rfl) ?_
          refine lv_istore (lv' := [(12, .int (nI (se M (ow M 0) c d))), (11, .int (nI (sh M (ow M 0) c d))), (10, .int (nI (gr M c d))), (9, .int (nI d)), (8, .int (nI 0)), (7, .int (nI (me M (ow M 0) c d))), (6, .int (nI (sm (fun j => ev M (ow M 0) c j) d))), (5, .int (nI (sm (fun j => gr M c j) d))), (4, .int (nI (wf M c 0))), (3, .int (nI (sh M (ow M 0) c c))), (2, .int (nI (pc4 (ow M 0) c))), (0, .ref c0), (1, .int (nI c))]) hx hb dL_isCousin_195 hl (by decide) rfl (fun ls hl => ?_)
          refine lv_iload hx hb dL_isCousin_197 (lv_at hl 0 rfl) ?_
          refine lv_iload_n hx hb dL_isCousin_199 rfl (lv_at hl 9 rfl) ?_
          refine join_v (T := Nat) (J := 211) (nL := 14) (fun v => [(12, .int (nI (se M (ow M 0) c d))), (11, .int (nI (sh M (ow M 0) c d))), (10, .int (nI (gr M c d))), (9, .int (nI d)), (8, .int (nI 0)), (7, .int (nI (me M (ow M 0) c d))), (6, .int (nI (sm (fun j => ev M (ow M 0) c j) d))), (5, .int (nI (sm (fun j => gr M c j) d))), (4, .int (nI (wf M c 0))), (3, .int (nI (sh M (ow M 0) c c))), (2, .int (nI (pc4 (ow M 0) c))), (0, .ref c0), (1, .int (nI c))]) (fun v => [.int (nI v)]) (fun v => v = (if (se M (ow M 0) c d) ≤ (sh M (ow M 0) c c) then 0 else ((se M (ow M 0) c d) - (sh M (ow M 0) c c)))) ?_ (fun jj32 => ?_)
          · intro v ls hl hv33
            subst hv33
            refine nr_top (y := nI (ev M (ow M 0) c d)) (congrArg nI (ev_q (by omega))) ?_
            refine lv_istore (lv' := [(13, .int (nI (ev M (ow M 0) c d))), (12, .int (nI (se M (ow M 0) c d))), (11, .int (nI (sh M (ow M 0) c d))), (10, .int (nI (gr M c d))), (9, .int (nI d)), (8, .int (nI 0)), (7, .int (nI (me M (ow M 0) c d))), (6, .int (nI (sm (fun j => ev M (ow M 0) c j) d))), (5, .int (nI (sm (fun j => gr M c j) d))), (4, .int (nI (wf M c 0))), (3, .int (nI (sh M (ow M 0) c c))), (2, .int (nI (pc4 (ow M 0) c))), (0, .ref c0), (1, .int (nI c))]) hx hb dL_isCousin_211 hl (by decide) rfl (fun ls hl => ?_)
            refine lv_aload_n hx hb dL_isCousin_213 rfl (lv_at hl 12 rfl) ?_
            refine lv_iload_n hx hb dL_isCousin_214 rfl (lv_at hl 13 rfl) ?_
            refine lv_iload hx hb dL_isCousin_215 (lv_at hl 4 rfl) ?_
            refine nr_const (v := 1) hx hb dL_isCousin_217 rfl ?_
            refine k_pair ⟨hx, hb, hml, hown, hts⟩ (cwV 3 hts gL_isCousin_X5_pair rfl rfl rfl (by decide +kernel) ⟨Nat.le_of_ble_eq_true rfl, Nat.le_of_ble_eq_true rfl⟩) hK hNW hAA  hO hS hl.1 (Nat.le_of_ble_eq_true rfl) dL_isCousin_218 ⟨Nat.zero_le _, Nat.zero_le _⟩ (fun H locs hO hS => ?_)
            have hO : q_OB G AA c0 hbd M hp _ := hO
            refine nr_top (y := nI (sh M (ow M 0) c d)) (pa_1 (by omega) (by omega) (by omega)) ?_
            refine lv_iload hx hb dL_isCousin_221 (lv_at hl 2 rfl) ?_
            refine br_ine (tgt := 264) hx hb dL_isCousin_223 (by decide) (by omega) (by omega) (fun h34 => ?_) (fun h34 => ?_)
            · exact absurd rfl h34
            · skip
              refine lv_aload_n hx hb dL_isCousin_226 rfl (lv_at hl 12 rfl) ?_
              refine lv_iload_n hx hb dL_isCousin_227 rfl (lv_at hl 13 rfl) ?_
              refine lv_iload hx hb dL_isCousin_228 (lv_at hl 4 rfl) ?_
              refine nr_const (v := 2) hx hb dL_isCousin_230 rfl ?_
              refine k_pair ⟨hx, hb, hml, hown, hts⟩ (cwV 3 hts gL_isCousin_X5_pair rfl rfl rfl (by decide +kernel) ⟨Nat.le_of_ble_eq_true rfl, Nat.le_of_ble_eq_true rfl⟩) hK hNW hAA  hO hS hl.1 (Nat.le_of_ble_eq_true rfl) dL_isCousin_231 ⟨Nat.zero_le _, Nat.zero_le _⟩ (fun H locs hO hS => ?_)
              have hO : q_OB G AA c0 hbd M hp _ := hO
              refine nr_top (y := nI (se M (ow M 0) c d)) (pa_2 (by omega) (by omega) (by omega)) ?_
              refine lv_iload hx hb dL_isCousin_234 (lv_at hl 1 rfl) ?_
              refine br_ine (tgt := 264) hx hb dL_isCousin_236 (by decide) (by omega) (by omega) (fun h35 => ?_) (fun h35 => ?_)
              · exact absurd rfl h35
              · skip
                refine lv_aload_n hx hb dL_isCousin_239 rfl (lv_at hl 12 rfl) ?_
                refine lv_iload_n hx hb dL_isCousin_240 rfl (lv_at hl 13 rfl) ?_
                refine lv_iload hx hb dL_isCousin_241 (lv_at hl 4 rfl) ?_
                refine nr_const (v := 3) hx hb dL_isCousin_243 rfl ?_
                refine k_pair ⟨hx, hb, hml, hown, hts⟩ (cwV 3 hts gL_isCousin_X5_pair rfl rfl rfl (by decide +kernel) ⟨Nat.le_of_ble_eq_true rfl, Nat.le_of_ble_eq_true rfl⟩) hK hNW hAA  hO hS hl.1 (Nat.le_of_ble_eq_true rfl) dL_isCousin_244 ⟨Nat.zero_le _, Nat.zero_le _⟩ (fun H locs hO hS => ?_)
                have hO : q_OB G AA c0 hbd M hp _ := hO
                refine nr_top (y := nI (ev M (ow M 0) c d)) (pa_3 (by omega) (by omega) (by omega)) ?_
                refine lv_iload hx hb dL_isCousin_247 (lv_at hl 0 rfl) ?_
                refine br_ine (tgt := 264) hx hb dL_isCousin_249 (by decide) (by omega) (by omega) (fun h36 => ?_) (fun h36 => ?_)
                · exact absurd rfl h36
                · skip
                  refine lv_iload hx hb dL_isCousin_252 (lv_at hl 3 rfl) ?_
                  refine br_lt0 (tgt := 264) hx hb dL_isCousin_254 (by decide) (by omega) ?_
                  refine lv_iload hx hb dL_isCousin_257 (lv_at hl 3 rfl) ?_
                  refine nr_bi (v := 9) hx hb dL_isCousin_259 (by decide +kernel) ?_
                  refine br_ile (tgt := 266) hx hb dL_isCousin_261 (by decide) (by omega) (by decide) (fun h37 => ?_) (fun h37 => ?_)
                  · skip
                    refine lv_iload hx hb dL_isCousin_266 (lv_at hl 8 rfl) ?_
                    refine lv_iload hx hb dL_isCousin_268 (lv_at hl 3 rfl) ?_
                    refine nr_add hx hb dL_isCousin_270 ?_
                    refine lv_istore (lv' := [(5, .int (nI ((sm (fun j => gr M c j) d) + (gr M c d)))), (13, .int (nI (ev M (ow M 0) c d))), (12, .int (nI (se M (ow M 0) c d))), (11, .int (nI (sh M (ow M 0) c d))), (10, .int (nI (gr M c d))), (9, .int (nI d)), (8, .int (nI 0)), (7, .int (nI (me M (ow M 0) c d))), (6, .int (nI (sm (fun j => ev M (ow M 0) c j) d))), (4, .int (nI (wf M c 0))), (3, .int (nI (sh M (ow M 0) c c))), (2, .int (nI (pc4 (ow M 0) c))), (0, .ref c0), (1, .int (nI c))]) hx hb dL_isCousin_271 hl (by decide) rfl (fun ls hl => ?_)
                    refine lv_iload hx hb dL_isCousin_273 (lv_at hl 8 rfl) ?_
                    refine lv_iload hx hb dL_isCousin_275 (lv_at hl 1 rfl) ?_
                    refine nr_add hx hb dL_isCousin_277 ?_
                    refine lv_istore (lv' := [(6, .int (nI ((sm (fun j => ev M (ow M 0) c j) d) + (ev M (ow M 0) c d)))), (5, .int (nI ((sm (fun j => gr M c j) d) + (gr M c d)))), (13, .int (nI (ev M (ow M 0) c d))), (12, .int (nI (se M (ow M 0) c d))), (11, .int (nI (sh M (ow M 0) c d))), (10, .int (nI (gr M c d))), (9, .int (nI d)), (8, .int (nI 0)), (7, .int (nI (me M (ow M 0) c d))), (4, .int (nI (wf M c 0))), (3, .int (nI (sh M (ow M 0) c c))), (2, .int (nI (pc4 (ow M 0) c))), (0, .ref c0), (1, .int (nI c))]) hx hb dL_isCousin_278 hl (by decide) rfl (fun ls hl => ?_)
                    refine lv_iload hx hb dL_isCousin_280 (lv_at hl 2 rfl) ?_
                    refine lv_iload hx hb dL_isCousin_282 (lv_at hl 8 rfl) ?_
                    refine join_v (T := Nat) (J := 294) (nL := 14) (fun v => [(6, .int (nI ((sm (fun j => ev M (ow M 0) c j) d) + (ev M (ow M 0) c d)))), (5, .int (nI ((sm (fun j => gr M c j) d) + (gr M c d)))), (13, .int (nI (ev M (ow M 0) c d))), (12, .int (nI (se M (ow M 0) c d))), (11, .int (nI (sh M (ow M 0) c d))), (10, .int (nI (gr M c d))), (9, .int (nI d)), (8, .int (nI 0)), (7, .int (nI (me M (ow M 0) c d))), (4, .int (nI (wf M c 0))), (3, .int (nI (sh M (ow M 0) c c))), (2, .int (nI (pc4 (ow M 0) c))), (0, .ref c0), (1, .int (nI c))]) (fun v => [.int (nI v)]) (fun v => v = (if (ev M (ow M 0) c d) ≤ (me M (ow M 0) c d) then (me M (ow M 0) c d) else (ev M (ow M 0) c d))) ?_ (fun jj38 => ?_)
                    · intro v ls hl hv39
                      subst hv39
                      refine lv_istore (lv' := [(7, .int (nI (if (ev M (ow M 0) c d) ≤ (me M (ow M 0) c d) then (me M (ow M 0) c d) else (ev M (ow M 0) c d)))), (6, .int (nI ((sm (fun j => ev M (ow M 0) c j) d) + (ev M (ow M 0) c d)))), (5, .int (nI ((sm (fun j => gr M c j) d) + (gr M c d)))), (13, .int (nI (ev M (ow M 0) c d))), (12, .int (nI (se M (ow M 0) c d))), (11, .int (nI (sh M (ow M 0) c d))), (10, .int (nI (gr M c d))), (9, .int (nI d)), (8, .int (nI 0)), (4, .int (nI (wf M c 0))), (3, .int (nI (sh M (ow M 0) c c))), (2, .int (nI (pc4 (ow M 0) c))), (0, .ref c0), (1, .int (nI c))]) hx hb dL_isCousin_294 hl (by decide) rfl (fun ls hl => ?_)
                      refine nr_inc (d := 1) (v := d + 1) (lv' := [(9, .int (nI (d + 1))), (7, .int (nI (if (ev M (ow M 0) c d) ≤ (me M (ow M 0) c d) then (me M (ow M 0) c d) else (ev M (ow M 0) c d)))), (6, .int (nI ((sm (fun j => ev M (ow M 0) c j) d) + (ev M (ow M 0) c d)))), (5, .int (nI ((sm (fun j => gr M c j) d) + (gr M c d)))), (13, .int (nI (ev M (ow M 0) c d))), (12, .int (nI (se M (ow M 0) c d))), (11, .int (nI (sh M (ow M 0) c d))), (10, .int (nI (gr M c d))), (8, .int (nI 0)), (4, .int (nI (wf M c 0))), (3, .int (nI (sh M (ow M 0) c c))), (2, .int (nI (pc4 (ow M 0) c))), (0, .ref c0), (1, .int (nI c))]) hx hb dL_isCousin_296 hl (k := 7) rfl rfl (by decide) rfl (fun ls hl => ?_)
                      refine lv_goto (tgt := 109) hx hb dL_isCousin_299 (by decide) ?_
                      skip
                      exact ih4 (d + 1) ls H locs (lv_sub hl [0, 8, 1, 2, 3, 9, 10, 11, 12, 13] rfl) hO hS (by omega) (by omega)
                    · skip
                      refine br_ile (tgt := 292) hx hb dL_isCousin_284 (by decide) (by omega) (by omega) (fun h40 => ?_) (fun h40 => ?_)
                      · skip
                        refine lv_iload hx hb dL_isCousin_292 (lv_at hl 8 rfl) ?_
                        exact jj38 (me M (ow M 0) c d) ls (lv_sub hl [0, 1, 2, 3, 4, 5, 6, 7, 8, 9, 10, 11, 12, 13] rfl) (by simp only [if_pos h40])
                      · skip
                        refine lv_iload hx hb dL_isCousin_287 (lv_at hl 2 rfl) ?_
                        refine lv_goto (tgt := 294) hx hb dL_isCousin_289 (by decide) ?_
                        exact jj38 (ev M (ow M 0) c d) ls (lv_sub hl [0, 1, 2, 3, 4, 5, 6, 7, 8, 9, 10, 11, 12, 13] rfl) (by simp only [if_neg h40])
                  · exact absurd hg9 h37
          · skip
            refine br_ile (tgt := 210) hx hb dL_isCousin_200 (by decide) (by omega) (by omega) (fun h41 => ?_) (fun h41 => ?_)
            · skip
              refine nr_const (v := 0) hx hb dL_isCousin_210 rfl ?_
              exact jj32 0 ls (lv_sub hl [0, 1, 2, 3, 4, 5, 6, 7, 8, 9, 10, 11, 12] rfl) (by simp only [if_pos h41])
            · skip
              refine lv_iload hx hb dL_isCousin_203 (lv_at hl 0 rfl) ?_
              refine lv_iload_n hx hb dL_isCousin_205 rfl (lv_at hl 9 rfl) ?_
              refine nr_sub hx hb dL_isCousin_206 (by omega) ?_
              refine lv_goto (tgt := 211) hx hb dL_isCousin_207 (by decide) ?_
              exact jj32 ((se M (ow M 0) c d) - (sh M (ow M 0) c c)) ls (lv_sub hl [0, 1, 2, 3, 4, 5, 6, 7, 8, 9, 10, 11, 12] rfl) (by simp only [if_neg h41])
        · skip
          refine lv_iload hx hb dL_isCousin_148 (lv_at hl 1 rfl) ?_
          refine lv_aload_n hx hb dL_isCousin_150 rfl (lv_at hl 11 rfl) ?_
          refine lv_iload hx hb dL_isCousin_151 (lv_at hl 0 rfl) ?_
          refine nr_const (v := 4) hx hb dL_isCousin_153 rfl ?_
          refine k_plot ⟨hx, hb, hml, hown, hts⟩ (cwV 2 hts gL_isCousin_X5_plot rfl rfl rfl (by decide +kernel) ⟨Nat.le_of_ble_eq_true rfl, Nat.le_of_ble_eq_true rfl⟩) hK hNW hAA  hO hS hl.1 (Nat.le_of_ble_eq_true rfl) dL_isCousin_154 ⟨Nat.zero_le _, Nat.zero_le _⟩ ?_
          refine nr_top (y := nI (ow M 0 k2)) (pl_o (by omega)) ?_
          refine lv_iload hx hb dL_isCousin_157 (lv_at hl 3 rfl) ?_
          refine join_v (T := Nat) (J := 175) (nL := 14) (fun v => [(12, .int (nI k2)), (11, .int (nI (sm (fun j => if ow M 0 j = d then wr M c j else 0) k2))), (10, .int (nI (gr M c d))), (9, .int (nI d)), (8, .int (nI 0)), (7, .int (nI (me M (ow M 0) c d))), (6, .int (nI (sm (fun j => ev M (ow M 0) c j) d))), (5, .int (nI (sm (fun j => gr M c j) d))), (4, .int (nI (wf M c 0))), (3, .int (nI (sh M (ow M 0) c c))), (2, .int (nI (pc4 (ow M 0) c))), (0, .ref c0), (1, .int (nI c))]) (fun v => [.int (nI v), .int (nI (sm (fun j => if ow M 0 j = d then wr M c j else 0) k2))]) (fun v => v = (if (ow M 0 k2) = d then (wr M c k2) else 0)) ?_ (fun jj42 => ?_)
          · intro v ls hl hv43
            subst hv43
            refine nr_add hx hb dL_isCousin_175 ?_
            refine lv_istore (lv' := [(11, .int (nI ((sm (fun j => if ow M 0 j = d then wr M c j else 0) k2) + (if (ow M 0 k2) = d then (wr M c k2) else 0)))), (12, .int (nI k2)), (10, .int (nI (gr M c d))), (9, .int (nI d)), (8, .int (nI 0)), (7, .int (nI (me M (ow M 0) c d))), (6, .int (nI (sm (fun j => ev M (ow M 0) c j) d))), (5, .int (nI (sm (fun j => gr M c j) d))), (4, .int (nI (wf M c 0))), (3, .int (nI (sh M (ow M 0) c c))), (2, .int (nI (pc4 (ow M 0) c))), (0, .ref c0), (1, .int (nI c))]) hx hb dL_isCousin_176 hl (by decide) rfl (fun ls hl => ?_)
            refine nr_inc (d := 1) (v := k2 + 1) (lv' := [(12, .int (nI (k2 + 1))), (11, .int (nI ((sm (fun j => if ow M 0 j = d then wr M c j else 0) k2) + (if (ow M 0 k2) = d then (wr M c k2) else 0)))), (10, .int (nI (gr M c d))), (9, .int (nI d)), (8, .int (nI 0)), (7, .int (nI (me M (ow M 0) c d))), (6, .int (nI (sm (fun j => ev M (ow M 0) c j) d))), (5, .int (nI (sm (fun j => gr M c j) d))), (4, .int (nI (wf M c 0))), (3, .int (nI (sh M (ow M 0) c c))), (2, .int (nI (pc4 (ow M 0) c))), (0, .ref c0), (1, .int (nI c))]) hx hb dL_isCousin_178 hl (k := 1) rfl rfl (by decide) rfl (fun ls hl => ?_)
            refine lv_goto (tgt := 141) hx hb dL_isCousin_181 (by decide) ?_
            exact ih29 (k2 + 1) ls H locs (lv_sub hl [0, 1, 2, 3, 4, 5, 6, 7, 8, 9, 10, 11, 12] rfl) hO hS (by omega) (by omega)
          · skip
            refine br_ine (tgt := 174) hx hb dL_isCousin_159 (by decide) (Nat.lt_trans (ok_ow h0k k2 (by omega)) (by decide)) (by omega) (fun h44 => ?_) (fun h44 => ?_)
            · skip
              refine nr_const (v := 0) hx hb dL_isCousin_174 rfl ?_
              exact jj42 0 ls (lv_sub hl [0, 1, 2, 3, 4, 5, 6, 7, 8, 9, 10, 11, 12] rfl) (by simp only [if_neg h44])
            · skip
              refine lv_aload_n hx hb dL_isCousin_162 rfl (lv_at hl 11 rfl) ?_
              refine lv_iload hx hb dL_isCousin_163 (lv_at hl 0 rfl) ?_
              refine nr_const (v := 5) hx hb dL_isCousin_165 rfl ?_
              refine lv_iload_n hx hb dL_isCousin_166 rfl (lv_at hl 12 rfl) ?_
              refine nr_add hx hb dL_isCousin_167 ?_
              refine k_plot ⟨hx, hb, hml, hown, hts⟩ (cwV 2 hts gL_isCousin_X5_plot rfl rfl rfl (by decide +kernel) ⟨Nat.le_of_ble_eq_true rfl, Nat.le_of_ble_eq_true rfl⟩) hK hNW hAA  hO hS hl.1 (Nat.le_of_ble_eq_true rfl) dL_isCousin_168 ⟨Nat.zero_le _, Nat.zero_le _⟩ ?_
              refine nr_top (y := nI (wr M c k2)) (pl_w (by omega) (by omega)) ?_
              refine lv_goto (tgt := 175) hx hb dL_isCousin_171 (by decide) ?_
              exact jj42 (wr M c k2) ls (lv_sub hl [0, 1, 2, 3, 4, 5, 6, 7, 8, 9, 10, 11, 12] rfl) (by simp only [if_pos h44])
      · skip
        refine lv_goto (tgt := 296) hx hb dL_isCousin_122 (by decide) ?_
        refine nr_inc (d := 1) (v := d + 1) (lv' := [(9, .int (nI (d + 1))), (8, .int (nI 0)), (7, .int (nI (me M (ow M 0) c d))), (6, .int (nI (sm (fun j => ev M (ow M 0) c j) d))), (5, .int (nI (sm (fun j => gr M c j) d))), (4, .int (nI (wf M c 0))), (3, .int (nI (sh M (ow M 0) c c))), (2, .int (nI (pc4 (ow M 0) c))), (0, .ref c0), (1, .int (nI c))]) hx hb dL_isCousin_296 hl (k := 0) rfl rfl (by decide) rfl (fun ls hl => ?_)
        refine lv_goto (tgt := 109) hx hb dL_isCousin_299 (by decide) ?_
        obtain ⟨efx1, efx2, efx3⟩ := cs_g (O := ow M 0) hdg (show d = c by omega)
        exact ih4 (d + 1) ls H locs (by show lv_has ls 14 [(9, .int (nI (d + 1))), (8, .int (nI 0)), (7, .int (nI (me M (ow M 0) c (d + 1)))), (6, .int (nI (sm (fun j => ev M (ow M 0) c j) (d + 1)))), (5, .int (nI (sm (fun j => gr M c j) (d + 1)))), (4, .int (nI (wf M c 0))), (3, .int (nI (sh M (ow M 0) c c))), (2, .int (nI (pc4 (ow M 0) c))), (0, .ref c0), (1, .int (nI c))]; rw [efx1, efx2, efx3]; exact lv_sub hl [0, 1, 2, 3, 4, 5, 6, 7, 8, 9] rfl) hO hS (by omega) (by omega)
  · skip
    refine lv_aload_n hx hb dL_isCousin_17 rfl (lv_at hl 4 rfl) ?_
    refine lv_iload_n hx hb dL_isCousin_18 rfl (lv_at hl 5 rfl) ?_
    refine lv_iload hx hb dL_isCousin_19 (lv_at hl 0 rfl) ?_
    refine wcO (As := [.ref c0, .int (nI c), .int (nI k)]) (ob0 := q_OB G AA c0 hbd M hp) (ob := fun (u : Unit) => q_OB G AA c0 hbd M hp) ⟨hx, hb, hml, hown, hts⟩ (m_worth l G AA c0 hbd M hp c k (by omega) (by omega)) (va_cwS 3 hts gL_isCousin_L_worth rfl rfl rfl (by decide +kernel) ⟨Nat.le_of_ble_eq_true rfl, Nat.le_of_ble_eq_true rfl⟩) hK hNW hAA hO hS rfl hl.1 rfl (Nat.le_of_ble_eq_true rfl) dL_isCousin_21 ⟨Nat.zero_le _, Nat.zero_le _⟩ (fun rr u45 H locs hw hO hS => ?_)
    obtain ⟨er, hw⟩ := hw
    subst er
    have hO : q_OB G AA c0 hbd M hp _ := hO
    refine lv_istore (lv' := [(6, .int (nI (wr M c k))), (5, .int (nI k)), (4, .int (nI (sm (fun j => wr M c j) k))), (3, .int (nI (sm (fun j => if ow M 0 j = c then wr M c j else 0) k))), (2, .int (nI (sm (fun j => bb (ow M 0 j = c)) k))), (0, .ref c0), (1, .int (nI c))]) hx hb dL_isCousin_24 hl (by decide) rfl (fun ls hl => ?_)
    refine lv_aload_n hx hb dL_isCousin_26 rfl (lv_at hl 5 rfl) ?_
    refine lv_iload hx hb dL_isCousin_27 (lv_at hl 1 rfl) ?_
    refine nr_const (v := 5) hx hb dL_isCousin_29 rfl ?_
    refine lv_iload_n hx hb dL_isCousin_30 rfl (lv_at hl 6 rfl) ?_
    refine nr_add hx hb dL_isCousin_31 ?_
    refine k_plot ⟨hx, hb, hml, hown, hts⟩ (cwV 2 hts gL_isCousin_X5_plot rfl rfl rfl (by decide +kernel) ⟨Nat.le_of_ble_eq_true rfl, Nat.le_of_ble_eq_true rfl⟩) hK hNW hAA  hO hS hl.1 (Nat.le_of_ble_eq_true rfl) dL_isCousin_32 ⟨Nat.zero_le _, Nat.zero_le _⟩ ?_
    refine nr_top (y := nI (wr M c k)) (pl_w (by omega) (by omega)) ?_
    refine lv_iload hx hb dL_isCousin_35 (lv_at hl 0 rfl) ?_
    refine br_ieq (tgt := 42) hx hb dL_isCousin_37 (by decide) (Nat.lt_of_le_of_lt (wr_le h0k hc (by omega)) (by decide)) (Nat.lt_of_le_of_lt (wr_le h0k hc (by omega)) (by decide)) (fun h46 => ?_) (fun h46 => ?_)
    · skip
      refine lv_iload hx hb dL_isCousin_42 (lv_at hl 2 rfl) ?_
      refine lv_iload hx hb dL_isCousin_44 (lv_at hl 0 rfl) ?_
      refine nr_add hx hb dL_isCousin_46 ?_
      refine lv_istore (lv' := [(4, .int (nI ((sm (fun j => wr M c j) k) + (wr M c k)))), (6, .int (nI (wr M c k))), (5, .int (nI k)), (3, .int (nI (sm (fun j => if ow M 0 j = c then wr M c j else 0) k))), (2, .int (nI (sm (fun j => bb (ow M 0 j = c)) k))), (0, .ref c0), (1, .int (nI c))]) hx hb dL_isCousin_47 hl (by decide) rfl (fun ls hl => ?_)
      refine lv_iload_n hx hb dL_isCousin_49 rfl (lv_at hl 4 rfl) ?_
      refine lv_aload_n hx hb dL_isCousin_50 rfl (lv_at hl 5 rfl) ?_
      refine lv_iload hx hb dL_isCousin_51 (lv_at hl 2 rfl) ?_
      refine nr_const (v := 4) hx hb dL_isCousin_53 rfl ?_
      refine k_plot ⟨hx, hb, hml, hown, hts⟩ (cwV 2 hts gL_isCousin_X5_plot rfl rfl rfl (by decide +kernel) ⟨Nat.le_of_ble_eq_true rfl, Nat.le_of_ble_eq_true rfl⟩) hK hNW hAA  hO hS hl.1 (Nat.le_of_ble_eq_true rfl) dL_isCousin_54 ⟨Nat.zero_le _, Nat.zero_le _⟩ ?_
      refine nr_top (y := nI (ow M 0 k)) (pl_o (by omega)) ?_
      refine lv_iload_n hx hb dL_isCousin_57 rfl (lv_at hl 6 rfl) ?_
      refine join_v (T := Nat) (J := 66) (nL := 14) (fun v => [(4, .int (nI ((sm (fun j => wr M c j) k) + (wr M c k)))), (6, .int (nI (wr M c k))), (5, .int (nI k)), (3, .int (nI (sm (fun j => if ow M 0 j = c then wr M c j else 0) k))), (2, .int (nI (sm (fun j => bb (ow M 0 j = c)) k))), (0, .ref c0), (1, .int (nI c))]) (fun v => [.int (nI v), .int (nI (sm (fun j => bb (ow M 0 j = c)) k))]) (fun v => v = bb ((ow M 0 k) = c)) ?_ (fun jj47 => ?_)
      · intro v ls hl hv48
        subst hv48
        refine nr_add hx hb dL_isCousin_66 ?_
        refine lv_istore_n (lv' := [(2, .int (nI ((sm (fun j => bb (ow M 0 j = c)) k) + (bb ((ow M 0 k) = c))))), (4, .int (nI ((sm (fun j => wr M c j) k) + (wr M c k)))), (6, .int (nI (wr M c k))), (5, .int (nI k)), (3, .int (nI (sm (fun j => if ow M 0 j = c then wr M c j else 0) k))), (0, .ref c0), (1, .int (nI c))]) hx hb dL_isCousin_67 rfl hl (by decide) rfl (fun ls hl => ?_)
        refine lv_iload_n hx hb dL_isCousin_68 rfl (lv_at hl 4 rfl) ?_
        refine lv_aload_n hx hb dL_isCousin_69 rfl (lv_at hl 5 rfl) ?_
        refine lv_iload hx hb dL_isCousin_70 (lv_at hl 3 rfl) ?_
        refine nr_const (v := 4) hx hb dL_isCousin_72 rfl ?_
        refine k_plot ⟨hx, hb, hml, hown, hts⟩ (cwV 2 hts gL_isCousin_X5_plot rfl rfl rfl (by decide +kernel) ⟨Nat.le_of_ble_eq_true rfl, Nat.le_of_ble_eq_true rfl⟩) hK hNW hAA  hO hS hl.1 (Nat.le_of_ble_eq_true rfl) dL_isCousin_73 ⟨Nat.zero_le _, Nat.zero_le _⟩ ?_
        refine nr_top (y := nI (ow M 0 k)) (pl_o (by omega)) ?_
        refine lv_iload_n hx hb dL_isCousin_76 rfl (lv_at hl 6 rfl) ?_
        refine join_v (T := Nat) (J := 86) (nL := 14) (fun v => [(2, .int (nI ((sm (fun j => bb (ow M 0 j = c)) k) + (bb ((ow M 0 k) = c))))), (4, .int (nI ((sm (fun j => wr M c j) k) + (wr M c k)))), (6, .int (nI (wr M c k))), (5, .int (nI k)), (3, .int (nI (sm (fun j => if ow M 0 j = c then wr M c j else 0) k))), (0, .ref c0), (1, .int (nI c))]) (fun v => [.int (nI v), .int (nI (sm (fun j => if ow M 0 j = c then wr M c j else 0) k))]) (fun v => v = (if (ow M 0 k) = c then (wr M c k) else 0)) ?_ (fun jj49 => ?_)
        · intro v ls hl hv50
          subst hv50
          refine nr_add hx hb dL_isCousin_86 ?_
          refine lv_istore_n (lv' := [(3, .int (nI ((sm (fun j => if ow M 0 j = c then wr M c j else 0) k) + (if (ow M 0 k) = c then (wr M c k) else 0)))), (2, .int (nI ((sm (fun j => bb (ow M 0 j = c)) k) + (bb ((ow M 0 k) = c))))), (4, .int (nI ((sm (fun j => wr M c j) k) + (wr M c k)))), (6, .int (nI (wr M c k))), (5, .int (nI k)), (0, .ref c0), (1, .int (nI c))]) hx hb dL_isCousin_87 rfl hl (by decide) rfl (fun ls hl => ?_)
          refine nr_inc (d := 1) (v := k + 1) (lv' := [(5, .int (nI (k + 1))), (3, .int (nI ((sm (fun j => if ow M 0 j = c then wr M c j else 0) k) + (if (ow M 0 k) = c then (wr M c k) else 0)))), (2, .int (nI ((sm (fun j => bb (ow M 0 j = c)) k) + (bb ((ow M 0 k) = c))))), (4, .int (nI ((sm (fun j => wr M c j) k) + (wr M c k)))), (6, .int (nI (wr M c k))), (0, .ref c0), (1, .int (nI c))]) hx hb dL_isCousin_88 hl (k := 4) rfl rfl (by decide) rfl (fun ls hl => ?_)
          refine lv_goto (tgt := 10) hx hb dL_isCousin_91 (by decide) ?_
          exact ih1 (k + 1) ls H locs (lv_sub hl [0, 3, 1, 2, 5, 6] rfl) hO hS (by omega) (by omega)
        · skip
          refine br_ine (tgt := 85) hx hb dL_isCousin_77 (by decide) (Nat.lt_trans (ok_ow h0k k (by omega)) (by decide)) (by omega) (fun h51 => ?_) (fun h51 => ?_)
          · skip
            refine nr_const (v := 0) hx hb dL_isCousin_85 rfl ?_
            exact jj49 0 ls (lv_sub hl [0, 1, 2, 3, 4, 5, 6] rfl) (by simp only [if_neg h51])
          · skip
            refine lv_iload hx hb dL_isCousin_80 (lv_at hl 2 rfl) ?_
            refine lv_goto (tgt := 86) hx hb dL_isCousin_82 (by decide) ?_
            exact jj49 (wr M c k) ls (lv_sub hl [0, 1, 2, 3, 4, 5, 6] rfl) (by simp only [if_pos h51])
      · skip
        refine br_ine (tgt := 65) hx hb dL_isCousin_58 (by decide) (Nat.lt_trans (ok_ow h0k k (by omega)) (by decide)) (by omega) (fun h52 => ?_) (fun h52 => ?_)
        · skip
          refine nr_const (v := 0) hx hb dL_isCousin_65 rfl ?_
          exact jj47 0 ls (lv_sub hl [0, 1, 2, 3, 4, 5, 6] rfl) (bb_f h52).symm
        · skip
          refine nr_const (v := 1) hx hb dL_isCousin_61 rfl ?_
          refine lv_goto (tgt := 66) hx hb dL_isCousin_62 (by decide) ?_
          exact jj47 1 ls (lv_sub hl [0, 1, 2, 3, 4, 5, 6] rfl) (bb_t h52).symm
    · exact absurd rfl h46)
