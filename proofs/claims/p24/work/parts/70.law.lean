/-! THE CLAIM OUT OF ONE WALK OF THE LAW'S BODY. Your part is whole_start (and what it stands on); all else here is the same for every law, but numbers. -/
def R_law : String := "CousinSharesLaw"
def lw_P (b : Addr) (xs : List Int32) (args : Array Value) (s : State) : Prop := args = #[.ref b] ∧ s.IntsAt b xs ∧ xs.length ≤ 260 ∧ (Jvm.Cond.and given_1 narrow_1).before args s = true
def lw_Q (_ : Array Value) (s : State) (o : Outcome) (t : State) : Prop := o = .returned (some (.int 1)) ∧ Framed s o t [] 600000 7302250
def lw_Z (below : List Frame) (a : Array Value) (s : State) : State → Prop := fun t => ∃ o, t.status = .running ∧ Ended t below o ∧ lw_Q a s o t
/-- the law's own end, with 1 on the stack, nothing written that was there before, its room as the claim has it -/
theorem lw_ret {p : Program} {l : Launch} {e : Env} {s : State} {m : MethodId} {below : List Frame} {meth : Method} {c : Code} {b : Nat} (hx : p.tables.exec = Jvm.exec) (hb : c.code = code) (hr : meth.sig.returnType = ret) (hlocks : meth.locks = false) {pc : Nat} {H : Heap} {ls : Array Slot} (hdg : decode code pc = .ok (.ireturn, 1)) : W p l e room_1 s m #[Value.ref b] below meth c H [] 600000 7302250 (lw_Z below #[Value.ref b] s) (F0 m pc ls [.int 1]) := by
  intro T hT X
  obtain ⟨fs, hret, hrun, hended, hW, hframe⟩ := X.leave (v := some (.int 1)) (hlocks := hlocks) (fun h => by rw [hr] at h; cases h)
  have hmeth' : T.vm.method? m = some meth := X.method'
  refine ⟨T.setFrames fs, ?_, .returned (some (.int 1)), hrun, hended, rfl, ⟨_, rfl⟩, hW, hframe⟩
  jvm_step X.here [X.here.top, hx, hb, hdg, hmeth', hr, ret, narrow_b1]
  (try refine ⟨rfl, ?_⟩); (try refine ⟨rfl, ?_⟩)
  first | (intro acts; rw [hret _ acts rfl rfl rfl]) | rw [hret _ _ rfl rfl rfl]
  exact Steps.refl _
/-- what holds at the law's entry: the machine, the code, the tables' words (any of lw_tbl by 'hts w (by decide +kernel)'), the script of L ints xs at the cell b, what the Statement gives of the start (any of its parts by flat_of_before) -/
def lw_At (p : Program) (s : State) (m : MethodId) (meth : Method) (c : Code) (b L : Nat) (xs : Nat → Int32) : Prop :=
  p.tables.exec = Jvm.exec ∧ c.code = code ∧ meth.sig.returnType = ret ∧ c.maxLocals = 4 ∧ s.vm.findClass R_law = some m.cls ∧ (∀ w ∈ lw_tbl, w.before #[Value.ref b] s = true) ∧ va_X b L xs s s.heap ∧ b < s.heap.size ∧ meth.locks = false ∧ (Jvm.Cond.and given_1 narrow_1).before #[Value.ref b] s = true
set_option maxHeartbeats 8000000 in
set_option maxRecDepth 100000 in
theorem law_step {p : Program} {e : Env} {s : State} {m : MethodId} {below : List Frame} {meth : Method} {c : Code} (l : Launch) {b L : Nat} {xs : Nat → Int32} (hL : L ≤ 260) (C0 : lw_At p s m meth c b L xs) {G : gG} (hK : va_K G.1 vwCl (tyL G.2) s) (hNW : NW s) {c0 : Nat} {e9 : Nat} {M0 : Nat → Nat} (he9 : e9 ≤ 70) {ls : Array Slot} {H : Heap} {locs : List Loc} (hl : lv_has ls 4 [(0, .ref b), (1, .ref c0), (2, .int (nI e9))]) (hO : q_OB G (fun q : Nat => s.heap.size ≤ q) c0 (64 * e9) M0 q_hT H) (hi_v : q_iv (64 * e9) M0) (hS : va_S (fun q : Nat => s.heap.size ≤ q) s.heap H locs) (hn : e9 < 70 → ∀ (M1 : Nat → Nat) (ls : Array Slot) (H : Heap) (locs : List Loc), lv_has ls 4 [(0, .ref b), (1, .ref c0), (2, .int (nI (e9 + 1)))] → q_OB G (fun q : Nat => s.heap.size ≤ q) c0 (64 * (e9 + 1)) M1 q_hT H → q_iv (64 * (e9 + 1)) M1 → va_S (fun q : Nat => s.heap.size ≤ q) s.heap H locs → W p l e room_1 s m #[Value.ref b] below meth c H locs 600000 7302250 (lw_Z below #[Value.ref b] s) (F0 m 65 ls [])) : W p l e room_1 s m #[Value.ref b] below meth c H locs 600000 7302250 (lw_Z below #[Value.ref b] s) (F0 m 65 ls []) := by
  obtain ⟨hx, hb, hr, hml, hown, hts0, hX, hbl, hlocks, hgv⟩ := id C0
  have hts : ∀ w ∈ wsL_law, w.before #[Value.ref b] s = true := fun w h => hts0 w (wsL_law_in w h)
  have hAA : ∀ q : Nat, s.heap.size ≤ q → (fun q : Nat => s.heap.size ≤ q) q := fun _ h => h
  have hbA : ¬ (fun q : Nat => s.heap.size ≤ q) b := Nat.not_le.mpr hbl
  refine lv_iload_n hx hb dL_law_65 rfl (lv_at hl 2 rfl) ?_
  refine nr_bi (v := 70) hx hb dL_law_66 (by decide +kernel) ?_
  refine br_ige (tgt := 156) hx hb dL_law_68 (by decide) (by omega) (by decide) (fun h1 => ?_) (fun h1 => ?_)
  · skip
    refine lv_aload_n hx hb dL_law_156 rfl (lv_at hl 1 rfl) ?_
    refine nr_bi (v := 24) hx hb dL_law_157 (by decide +kernel) ?_
    refine nr_const (v := 0) hx hb dL_law_159 rfl ?_
    refine nr_const (v := 1) hx hb dL_law_160 rfl ?_
    refine k_plant ⟨hx, hb, hml, hown, hts⟩ (cwV 3 hts gL_law_X5_plant rfl rfl rfl (by decide +kernel) ⟨Nat.le_of_ble_eq_true rfl, Nat.le_of_ble_eq_true rfl⟩) hK hNW hAA pP_24 True.intro hi_v hO hS hl.1 (Nat.le_of_ble_eq_true rfl) dL_law_161 ⟨Nat.le_of_ble_eq_true rfl, Nat.le_of_ble_eq_true rfl⟩ (fun H locs hO hS => ?_)
    have hO : q_OB G (fun q : Nat => s.heap.size ≤ q) c0 (64 * e9) M0 q_hT _ := hO
    refine nr_top (y := (-1)) (rfl) ?_
    refine lv_iconst (v := (-1)) hx hb dL_law_164 (by decide +kernel) ?_
    refine lv_icmp_ne (tgt := 263) hx hb dL_law_165 (by decide) (fun h2 => ?_) (fun h2 => ?_)
    · exact absurd rfl h2
    · skip
      refine lv_aload_n hx hb dL_law_168 rfl (lv_at hl 1 rfl) ?_
      refine nr_const (v := 0) hx hb dL_law_169 rfl ?_
      refine nr_const (v := 0) hx hb dL_law_170 rfl ?_
      refine nr_bi (v := 10) hx hb dL_law_171 (by decide +kernel) ?_
      refine k_plant ⟨hx, hb, hml, hown, hts⟩ (cwV 3 hts gL_law_X5_plant rfl rfl rfl (by decide +kernel) ⟨Nat.le_of_ble_eq_true rfl, Nat.le_of_ble_eq_true rfl⟩) hK hNW hAA pP_10 True.intro hi_v hO hS hl.1 (Nat.le_of_ble_eq_true rfl) dL_law_173 ⟨Nat.le_of_ble_eq_true rfl, Nat.le_of_ble_eq_true rfl⟩ (fun H locs hO hS => ?_)
      have hO : q_OB G (fun q : Nat => s.heap.size ≤ q) c0 (64 * e9) M0 q_hT _ := hO
      refine nr_top (y := (-2)) (rfl) ?_
      refine lv_bipush (v := (-2)) hx hb dL_law_176 (by decide +kernel) ?_
      refine lv_icmp_ne (tgt := 263) hx hb dL_law_178 (by decide) (fun h3 => ?_) (fun h3 => ?_)
      · exact absurd rfl h3
      · skip
        refine lv_aload_n hx hb dL_law_181 rfl (lv_at hl 1 rfl) ?_
        refine nr_const (v := 0) hx hb dL_law_182 rfl ?_
        refine nr_const (v := 4) hx hb dL_law_183 rfl ?_
        refine nr_const (v := 1) hx hb dL_law_184 rfl ?_
        refine k_weigh ⟨hx, hb, hml, hown, hts⟩ (cwV 3 hts gL_law_X5_weigh rfl rfl rfl (by decide +kernel) ⟨Nat.le_of_ble_eq_true rfl, Nat.le_of_ble_eq_true rfl⟩) hK hNW hAA pW_4 True.intro hi_v hO hS hl.1 (Nat.le_of_ble_eq_true rfl) dL_law_185 ⟨Nat.le_of_ble_eq_true rfl, Nat.le_of_ble_eq_true rfl⟩ (fun H locs hO hS => ?_)
        have hO : q_OB G (fun q : Nat => s.heap.size ≤ q) c0 (64 * e9) M0 q_hT _ := hO
        refine nr_top (y := (-1)) (rfl) ?_
        refine lv_iconst (v := (-1)) hx hb dL_law_188 (by decide +kernel) ?_
        refine lv_icmp_ne (tgt := 263) hx hb dL_law_189 (by decide) (fun h4 => ?_) (fun h4 => ?_)
        · exact absurd rfl h4
        · skip
          refine lv_aload_n hx hb dL_law_192 rfl (lv_at hl 1 rfl) ?_
          refine nr_const (v := 0) hx hb dL_law_193 rfl ?_
          refine k_divideN ⟨hx, hb, hml, hown, hts⟩ (cwV 1 hts gL_law_X5_divide rfl rfl rfl (by decide +kernel) ⟨Nat.le_of_ble_eq_true rfl, Nat.le_of_ble_eq_true rfl⟩) hK hNW hAA (by decide) hO hS hl.1 (Nat.le_of_ble_eq_true rfl) dL_law_194 ⟨Nat.le_of_ble_eq_true rfl, Nat.le_of_ble_eq_true rfl⟩ (fun H locs hO hS => ?_)
          have hO : q_OB G (fun q : Nat => s.heap.size ≤ q) c0 (64 * e9) M0 q_hT _ := hO
          refine lv_bipush (v := (-2)) hx hb dL_law_197 (by decide +kernel) ?_
          refine lv_icmp_ne (tgt := 263) hx hb dL_law_199 (by decide) (fun h5 => ?_) (fun h5 => ?_)
          · exact absurd rfl h5
          · skip
            refine lv_aload_n hx hb dL_law_202 rfl (lv_at hl 1 rfl) ?_
            refine nr_si (v := 128) hx hb dL_law_203 (by decide +kernel) ?_
            refine k_divideN ⟨hx, hb, hml, hown, hts⟩ (cwV 1 hts gL_law_X5_divide rfl rfl rfl (by decide +kernel) ⟨Nat.le_of_ble_eq_true rfl, Nat.le_of_ble_eq_true rfl⟩) hK hNW hAA (by decide) hO hS hl.1 (Nat.le_of_ble_eq_true rfl) dL_law_206 ⟨Nat.le_of_ble_eq_true rfl, Nat.le_of_ble_eq_true rfl⟩ (fun H locs hO hS => ?_)
            have hO : q_OB G (fun q : Nat => s.heap.size ≤ q) c0 (64 * e9) M0 q_hT _ := hO
            refine lv_bipush (v := (-2)) hx hb dL_law_209 (by decide +kernel) ?_
            refine lv_icmp_ne (tgt := 263) hx hb dL_law_211 (by decide) (fun h6 => ?_) (fun h6 => ?_)
            · exact absurd rfl h6
            · skip
              refine lv_aload_n hx hb dL_law_214 rfl (lv_at hl 1 rfl) ?_
              refine nr_const (v := 0) hx hb dL_law_215 rfl ?_
              refine nr_bi (v := 8) hx hb dL_law_216 (by decide +kernel) ?_
              refine k_give ⟨hx, hb, hml, hown, hts⟩ (cwV 2 hts gL_law_X5_give rfl rfl rfl (by decide +kernel) ⟨Nat.le_of_ble_eq_true rfl, Nat.le_of_ble_eq_true rfl⟩) hK hNW hAA pV_8 True.intro hi_v hO hS hl.1 (Nat.le_of_ble_eq_true rfl) dL_law_218 ⟨Nat.le_of_ble_eq_true rfl, Nat.le_of_ble_eq_true rfl⟩ (fun H locs hO hS => ?_)
              have hO : q_OB G (fun q : Nat => s.heap.size ≤ q) c0 (64 * e9) M0 q_hT _ := hO
              refine nr_top (y := (-1)) (rfl) ?_
              refine lv_iconst (v := (-1)) hx hb dL_law_221 (by decide +kernel) ?_
              refine lv_icmp_ne (tgt := 263) hx hb dL_law_222 (by decide) (fun h7 => ?_) (fun h7 => ?_)
              · exact absurd rfl h7
              · skip
                refine lv_aload_n hx hb dL_law_225 rfl (lv_at hl 1 rfl) ?_
                refine nr_const (v := 1) hx hb dL_law_226 rfl ?_
                refine nr_const (v := 0) hx hb dL_law_227 rfl ?_
                refine k_set ⟨hx, hb, hml, hown, hts⟩ (cwV 2 hts gL_law_X5_set rfl rfl rfl (by decide +kernel) ⟨Nat.le_of_ble_eq_true rfl, Nat.le_of_ble_eq_true rfl⟩) hK hNW hAA pS_10 True.intro hi_v hO hS hl.1 (Nat.le_of_ble_eq_true rfl) dL_law_228 ⟨Nat.le_of_ble_eq_true rfl, Nat.le_of_ble_eq_true rfl⟩ (fun H locs hO hS => ?_)
                have hO : q_OB G (fun q : Nat => s.heap.size ≤ q) c0 (64 * e9) M0 q_hT _ := hO
                refine nr_top (y := (-2)) (rfl) ?_
                refine lv_bipush (v := (-2)) hx hb dL_law_231 (by decide +kernel) ?_
                refine lv_icmp_ne (tgt := 263) hx hb dL_law_233 (by decide) (fun h8 => ?_) (fun h8 => ?_)
                · exact absurd rfl h8
                · skip
                  refine lv_aload_n hx hb dL_law_236 rfl (lv_at hl 1 rfl) ?_
                  refine nr_bi (v := 11) hx hb dL_law_237 (by decide +kernel) ?_
                  refine k_total ⟨hx, hb, hml, hown, hts⟩ (cwV 1 hts gL_law_X5_total rfl rfl rfl (by decide +kernel) ⟨Nat.le_of_ble_eq_true rfl, Nat.le_of_ble_eq_true rfl⟩) hK hNW hAA (by decide) hO hS hl.1 (Nat.le_of_ble_eq_true rfl) dL_law_239 ⟨Nat.le_of_ble_eq_true rfl, Nat.le_of_ble_eq_true rfl⟩ (fun H locs hO hS => ?_)
                  have hO : q_OB G (fun q : Nat => s.heap.size ≤ q) c0 (64 * e9) M0 q_hT _ := hO
                  refine nr_top (y := (-2)) (to_e) ?_
                  refine lv_bipush (v := (-2)) hx hb dL_law_242 (by decide +kernel) ?_
                  refine lv_icmp_ne (tgt := 263) hx hb dL_law_244 (by decide) (fun h9 => ?_) (fun h9 => ?_)
                  · exact absurd rfl h9
                  · skip
                    refine lv_aload_n hx hb dL_law_247 rfl (lv_at hl 1 rfl) ?_
                    refine nr_const (v := 1) hx hb dL_law_248 rfl ?_
                    refine nr_const (v := 1) hx hb dL_law_249 rfl ?_
                    refine nr_const (v := 0) hx hb dL_law_250 rfl ?_
                    refine k_pair ⟨hx, hb, hml, hown, hts⟩ (cwV 3 hts gL_law_X5_pair rfl rfl rfl (by decide +kernel) ⟨Nat.le_of_ble_eq_true rfl, Nat.le_of_ble_eq_true rfl⟩) hK hNW hAA  hO hS hl.1 (Nat.le_of_ble_eq_true rfl) dL_law_251 ⟨Nat.le_of_ble_eq_true rfl, Nat.le_of_ble_eq_true rfl⟩ (fun H locs hO hS => ?_)
                    have hO : q_OB G (fun q : Nat => s.heap.size ≤ q) c0 (64 * e9) M0 q_hT _ := hO
                    refine nr_top (y := (-2)) (pa_e) ?_
                    refine lv_bipush (v := (-2)) hx hb dL_law_254 (by decide +kernel) ?_
                    refine lv_icmp_ne (tgt := 263) hx hb dL_law_256 (by decide) (fun h10 => ?_) (fun h10 => ?_)
                    · exact absurd rfl h10
                    · skip
                      refine nr_const (v := 1) hx hb dL_law_259 rfl ?_
                      refine lv_goto (tgt := 264) hx hb dL_law_260 (by decide) ?_
                      refine va_forget (fun q hq => hS.2.2 q hq) ?_
                      refine nr_top (show nI 1 = 1 by decide) ?_
                      exact lw_ret hx hb hr hlocks dL_law_264
  · skip
    refine lv_aload_n hx hb dL_law_71 rfl (lv_at hl 0 rfl) ?_
    refine nr_const (v := 2) hx hb dL_law_72 rfl ?_
    refine lv_iload_n hx hb dL_law_73 rfl (lv_at hl 2 rfl) ?_
    refine nr_mul hx hb dL_law_74 ?_
    refine rcA (As := [.ref b, .int (nI (2 * e9))]) ⟨hx, hb, hml, hown, hts⟩ (c_L_cell l hL (by omega)) (va_cwS 2 hts gL_law_L_cell rfl rfl rfl (by decide +kernel) ⟨Nat.le_of_ble_eq_true rfl, Nat.le_of_ble_eq_true rfl⟩) (sX hX hbl hbA hS) hbl rfl hl.1 rfl (Nat.le_of_ble_eq_true rfl) dL_law_75 ⟨Nat.le_of_ble_eq_true rfl, Nat.le_of_ble_eq_true rfl⟩ (fun z11 => ?_)
    refine lv_istore_n (lv' := [(3, .int z11), (0, .ref b), (1, .ref c0), (2, .int (nI e9))]) hx hb dL_law_78 rfl hl (by decide) rfl (fun ls hl => ?_)
    refine lv_aload_n hx hb dL_law_79 rfl (lv_at hl 2 rfl) ?_
    refine lv_iload_n hx hb dL_law_80 rfl (lv_at hl 0 rfl) ?_
    refine lv_aload_n hx hb dL_law_81 rfl (lv_at hl 1 rfl) ?_
    refine nr_const (v := 2) hx hb dL_law_82 rfl ?_
    refine lv_iload_n hx hb dL_law_83 rfl (lv_at hl 3 rfl) ?_
    refine nr_mul hx hb dL_law_84 ?_
    refine nr_const (v := 1) hx hb dL_law_85 rfl ?_
    refine nr_add hx hb dL_law_86 ?_
    refine rcA (As := [.ref b, .int (nI ((2 * e9) + 1))]) ⟨hx, hb, hml, hown, hts⟩ (c_L_cell l hL (by omega)) (va_cwS 2 hts gL_law_L_cell rfl rfl rfl (by decide +kernel) ⟨Nat.le_of_ble_eq_true rfl, Nat.le_of_ble_eq_true rfl⟩) (sX hX hbl hbA hS) hbl rfl hl.1 rfl (Nat.le_of_ble_eq_true rfl) dL_law_87 ⟨Nat.le_of_ble_eq_true rfl, Nat.le_of_ble_eq_true rfl⟩ (fun z12 => ?_)
    refine wcO (As := [.ref c0, .int z11, .int z12]) (ob0 := q_OB G (fun q : Nat => s.heap.size ≤ q) c0 (64 * e9) M0 q_hT) (ob := fun (u : Nat → Nat) => q_OB G (fun q : Nat => s.heap.size ≤ q) c0 ((64 * e9) + 64) u q_hT) ⟨hx, hb, hml, hown, hts⟩ (m_does l G (fun q : Nat => s.heap.size ≤ q) c0 (64 * e9) M0  z11 z12 hi_v (by omega)) (va_cwS 3 hts gL_law_L_does rfl rfl rfl (by decide +kernel) ⟨Nat.le_of_ble_eq_true rfl, Nat.le_of_ble_eq_true rfl⟩) hK hNW hAA hO hS rfl hl.1 rfl (Nat.le_of_ble_eq_true rfl) dL_law_90 ⟨Nat.le_of_ble_eq_true rfl, Nat.le_of_ble_eq_true rfl⟩ (fun rr u13 H locs hw hO hS => ?_)
    obtain ⟨er, hw⟩ := hw
    subst er
    have hO : q_OB G (fun q : Nat => s.heap.size ≤ q) c0 ((64 * e9) + 64) u13 q_hT _ := hO
    have hvu := hw
    refine br_eq0 (tgt := 148) hx hb dL_law_93 (by decide) (by decide) (fun h14 => ?_) (fun h14 => ?_)
    · exact absurd h14 (by decide)
    · skip
      refine lv_iload_n hx hb dL_law_96 rfl (lv_at hl 3 rfl) ?_
      refine nr_const (v := 2) hx hb dL_law_97 rfl ?_
      refine nr_rem hx hb dL_law_98 (by omega) (by decide) (by decide) ?_
      refine nr_const (v := 1) hx hb dL_law_99 rfl ?_
      refine br_ine (tgt := 118) hx hb dL_law_100 (by decide) (by omega) (by decide) (fun h15 => ?_) (fun h15 => ?_)
      · skip
        refine lv_iload_n hx hb dL_law_118 rfl (lv_at hl 3 rfl) ?_
        refine nr_const (v := 5) hx hb dL_law_119 rfl ?_
        refine nr_rem hx hb dL_law_120 (by omega) (by decide) (by decide) ?_
        refine nr_const (v := 3) hx hb dL_law_121 rfl ?_
        refine br_ine (tgt := 132) hx hb dL_law_122 (by decide) (by omega) (by decide) (fun h16 => ?_) (fun h16 => ?_)
        · skip
          refine lv_iload_n hx hb dL_law_132 rfl (lv_at hl 3 rfl) ?_
          refine nr_bi (v := 25) hx hb dL_law_133 (by decide +kernel) ?_
          refine nr_rem hx hb dL_law_135 (by omega) (by decide) (by decide) ?_
          refine nr_bi (v := 14) hx hb dL_law_136 (by decide +kernel) ?_
          refine br_ine (tgt := 150) hx hb dL_law_138 (by decide) (by omega) (by decide) (fun h17 => ?_) (fun h17 => ?_)
          · skip
            refine nr_inc (d := 1) (v := e9 + 1) (lv' := [(2, .int (nI (e9 + 1))), (0, .ref b), (1, .ref c0)]) hx hb dL_law_150 (lv_sub hl [1, 2, 3] rfl) (k := 2) rfl rfl (by decide) rfl (fun ls hl => ?_)
            refine lv_goto (tgt := 65) hx hb dL_law_153 (by decide) ?_
            exact hn (by omega) u13 ls H locs (lv_sub hl [1, 2, 0] rfl) (q_OB_le hO (by omega)) (q_iv_le hvu (by omega)) hS
          · skip
            refine lv_aload_n hx hb dL_law_141 rfl (lv_at hl 2 rfl) ?_
            refine wcO (As := [.ref c0]) (ob0 := q_OB G (fun q : Nat => s.heap.size ≤ q) c0 ((64 * e9) + 64) u13 q_hT) (ob := fun (u : Unit) => q_OB G (fun q : Nat => s.heap.size ≤ q) c0 ((64 * e9) + 64) u13 q_hT) ⟨hx, hb, hml, hown, hts⟩ (m_isWithout l G (fun q : Nat => s.heap.size ≤ q) c0 ((64 * e9) + 64) u13   hvu) (va_cwS 1 hts gL_law_L_isWithout rfl rfl rfl (by decide +kernel) ⟨Nat.le_of_ble_eq_true rfl, Nat.le_of_ble_eq_true rfl⟩) hK hNW hAA hO hS rfl hl.1 rfl (Nat.le_of_ble_eq_true rfl) dL_law_142 ⟨Nat.le_of_ble_eq_true rfl, Nat.le_of_ble_eq_true rfl⟩ (fun rr u18 H locs hw hO hS => ?_)
            obtain ⟨er, hw⟩ := hw
            subst er
            have hO : q_OB G (fun q : Nat => s.heap.size ≤ q) c0 ((64 * e9) + 64) u13 q_hT _ := hO
            refine br_ne0 (tgt := 150) hx hb dL_law_145 (by decide) (by decide) (fun h19 => ?_) (fun h19 => ?_)
            · skip
              refine nr_inc (d := 1) (v := e9 + 1) (lv' := [(2, .int (nI (e9 + 1))), (0, .ref b), (1, .ref c0)]) hx hb dL_law_150 (lv_sub hl [1, 2, 3] rfl) (k := 2) rfl rfl (by decide) rfl (fun ls hl => ?_)
              refine lv_goto (tgt := 65) hx hb dL_law_153 (by decide) ?_
              exact hn (by omega) u13 ls H locs (lv_sub hl [1, 2, 0] rfl) (q_OB_le hO (by omega)) (q_iv_le hvu (by omega)) hS
            · exact absurd h19 (by decide)
        · skip
          refine lv_aload_n hx hb dL_law_125 rfl (lv_at hl 2 rfl) ?_
          refine wcO (As := [.ref c0]) (ob0 := q_OB G (fun q : Nat => s.heap.size ≤ q) c0 ((64 * e9) + 64) u13 q_hT) (ob := fun (u : Unit) => q_OB G (fun q : Nat => s.heap.size ≤ q) c0 ((64 * e9) + 64) u13 q_hT) ⟨hx, hb, hml, hown, hts⟩ (m_isWhole l G (fun q : Nat => s.heap.size ≤ q) c0 ((64 * e9) + 64) u13 q_hT  hvu (by omega)) (va_cwS 1 hts gL_law_L_isWhole rfl rfl rfl (by decide +kernel) ⟨Nat.le_of_ble_eq_true rfl, Nat.le_of_ble_eq_true rfl⟩) hK hNW hAA hO hS rfl hl.1 rfl (Nat.le_of_ble_eq_true rfl) dL_law_126 ⟨Nat.le_of_ble_eq_true rfl, Nat.le_of_ble_eq_true rfl⟩ (fun rr u20 H locs hw hO hS => ?_)
          obtain ⟨er, hw⟩ := hw
          subst er
          have hO : q_OB G (fun q : Nat => s.heap.size ≤ q) c0 ((64 * e9) + 64) u13 q_hT _ := hO
          refine br_eq0 (tgt := 148) hx hb dL_law_129 (by decide) (by decide) (fun h21 => ?_) (fun h21 => ?_)
          · exact absurd h21 (by decide)
          · skip
            refine lv_iload_n hx hb dL_law_132 rfl (lv_at hl 3 rfl) ?_
            refine nr_bi (v := 25) hx hb dL_law_133 (by decide +kernel) ?_
            refine nr_rem hx hb dL_law_135 (by omega) (by decide) (by decide) ?_
            refine nr_bi (v := 14) hx hb dL_law_136 (by decide +kernel) ?_
            refine br_ine (tgt := 150) hx hb dL_law_138 (by decide) (by omega) (by decide) (fun h22 => ?_) (fun h22 => ?_)
            · skip
              refine nr_inc (d := 1) (v := e9 + 1) (lv' := [(2, .int (nI (e9 + 1))), (0, .ref b), (1, .ref c0)]) hx hb dL_law_150 (lv_sub hl [1, 2, 3] rfl) (k := 2) rfl rfl (by decide) rfl (fun ls hl => ?_)
              refine lv_goto (tgt := 65) hx hb dL_law_153 (by decide) ?_
              exact hn (by omega) u13 ls H locs (lv_sub hl [1, 2, 0] rfl) (q_OB_le hO (by omega)) (q_iv_le hvu (by omega)) hS
            · skip
              refine lv_aload_n hx hb dL_law_141 rfl (lv_at hl 2 rfl) ?_
              refine wcO (As := [.ref c0]) (ob0 := q_OB G (fun q : Nat => s.heap.size ≤ q) c0 ((64 * e9) + 64) u13 q_hT) (ob := fun (u : Unit) => q_OB G (fun q : Nat => s.heap.size ≤ q) c0 ((64 * e9) + 64) u13 q_hT) ⟨hx, hb, hml, hown, hts⟩ (m_isWithout l G (fun q : Nat => s.heap.size ≤ q) c0 ((64 * e9) + 64) u13   hvu) (va_cwS 1 hts gL_law_L_isWithout rfl rfl rfl (by decide +kernel) ⟨Nat.le_of_ble_eq_true rfl, Nat.le_of_ble_eq_true rfl⟩) hK hNW hAA hO hS rfl hl.1 rfl (Nat.le_of_ble_eq_true rfl) dL_law_142 ⟨Nat.le_of_ble_eq_true rfl, Nat.le_of_ble_eq_true rfl⟩ (fun rr u23 H locs hw hO hS => ?_)
              obtain ⟨er, hw⟩ := hw
              subst er
              have hO : q_OB G (fun q : Nat => s.heap.size ≤ q) c0 ((64 * e9) + 64) u13 q_hT _ := hO
              refine br_ne0 (tgt := 150) hx hb dL_law_145 (by decide) (by decide) (fun h24 => ?_) (fun h24 => ?_)
              · skip
                refine nr_inc (d := 1) (v := e9 + 1) (lv' := [(2, .int (nI (e9 + 1))), (0, .ref b), (1, .ref c0)]) hx hb dL_law_150 (lv_sub hl [1, 2, 3] rfl) (k := 2) rfl rfl (by decide) rfl (fun ls hl => ?_)
                refine lv_goto (tgt := 65) hx hb dL_law_153 (by decide) ?_
                exact hn (by omega) u13 ls H locs (lv_sub hl [1, 2, 0] rfl) (q_OB_le hO (by omega)) (q_iv_le hvu (by omega)) hS
              · exact absurd h24 (by decide)
      · skip
        refine lv_aload_n hx hb dL_law_103 rfl (lv_at hl 2 rfl) ?_
        refine lv_iload_n hx hb dL_law_104 rfl (lv_at hl 0 rfl) ?_
        refine nr_const (v := 5) hx hb dL_law_105 rfl ?_
        refine lv_ishr hx hb dL_law_106 ?_
        refine nr_bi (v := 7) hx hb dL_law_107 (by decide +kernel) ?_
        refine rcS (As := [.int (z11 >>> ((nI 5) &&& 31)), .int (nI 7)]) ⟨hx, hb, hml, hown, hts⟩ (c_L_low l (z11 >>> ((nI 5) &&& 31)) 7 (by omega) (by omega)) (va_cwS 2 hts gL_law_L_low rfl rfl rfl (by decide +kernel) ⟨Nat.le_of_ble_eq_true rfl, Nat.le_of_ble_eq_true rfl⟩) rfl hl.1 rfl (Nat.le_of_ble_eq_true rfl) dL_law_109 ⟨Nat.le_of_ble_eq_true rfl, Nat.le_of_ble_eq_true rfl⟩ ?_
        refine wcO (As := [.ref c0, .int (nI (lo (z11 >>> ((nI 5) &&& 31)) 7))]) (ob0 := q_OB G (fun q : Nat => s.heap.size ≤ q) c0 ((64 * e9) + 64) u13 q_hT) (ob := fun (u : Unit) => q_OB G (fun q : Nat => s.heap.size ≤ q) c0 ((64 * e9) + 64) u13 q_hT) ⟨hx, hb, hml, hown, hts⟩ (m_isCousin l G (fun q : Nat => s.heap.size ≤ q) c0 ((64 * e9) + 64) u13 q_hT (lo (z11 >>> ((nI 5) &&& 31)) 7) (lo_lt (by decide)) hvu) (va_cwS 2 hts gL_law_L_isCousin rfl rfl rfl (by decide +kernel) ⟨Nat.le_of_ble_eq_true rfl, Nat.le_of_ble_eq_true rfl⟩) hK hNW hAA hO hS rfl hl.1 rfl (Nat.le_of_ble_eq_true rfl) dL_law_112 ⟨Nat.le_of_ble_eq_true rfl, Nat.le_of_ble_eq_true rfl⟩ (fun rr u25 H locs hw hO hS => ?_)
        obtain ⟨er, hw⟩ := hw
        subst er
        have hO : q_OB G (fun q : Nat => s.heap.size ≤ q) c0 ((64 * e9) + 64) u13 q_hT _ := hO
        refine br_eq0 (tgt := 148) hx hb dL_law_115 (by decide) (by decide) (fun h26 => ?_) (fun h26 => ?_)
        · exact absurd h26 (by decide)
        · skip
          refine lv_iload_n hx hb dL_law_118 rfl (lv_at hl 3 rfl) ?_
          refine nr_const (v := 5) hx hb dL_law_119 rfl ?_
          refine nr_rem hx hb dL_law_120 (by omega) (by decide) (by decide) ?_
          refine nr_const (v := 3) hx hb dL_law_121 rfl ?_
          refine br_ine (tgt := 132) hx hb dL_law_122 (by decide) (by omega) (by decide) (fun h27 => ?_) (fun h27 => ?_)
          · skip
            refine lv_iload_n hx hb dL_law_132 rfl (lv_at hl 3 rfl) ?_
            refine nr_bi (v := 25) hx hb dL_law_133 (by decide +kernel) ?_
            refine nr_rem hx hb dL_law_135 (by omega) (by decide) (by decide) ?_
            refine nr_bi (v := 14) hx hb dL_law_136 (by decide +kernel) ?_
            refine br_ine (tgt := 150) hx hb dL_law_138 (by decide) (by omega) (by decide) (fun h28 => ?_) (fun h28 => ?_)
            · skip
              refine nr_inc (d := 1) (v := e9 + 1) (lv' := [(2, .int (nI (e9 + 1))), (0, .ref b), (1, .ref c0)]) hx hb dL_law_150 (lv_sub hl [1, 2, 3] rfl) (k := 2) rfl rfl (by decide) rfl (fun ls hl => ?_)
              refine lv_goto (tgt := 65) hx hb dL_law_153 (by decide) ?_
              exact hn (by omega) u13 ls H locs (lv_sub hl [1, 2, 0] rfl) (q_OB_le hO (by omega)) (q_iv_le hvu (by omega)) hS
            · skip
              refine lv_aload_n hx hb dL_law_141 rfl (lv_at hl 2 rfl) ?_
              refine wcO (As := [.ref c0]) (ob0 := q_OB G (fun q : Nat => s.heap.size ≤ q) c0 ((64 * e9) + 64) u13 q_hT) (ob := fun (u : Unit) => q_OB G (fun q : Nat => s.heap.size ≤ q) c0 ((64 * e9) + 64) u13 q_hT) ⟨hx, hb, hml, hown, hts⟩ (m_isWithout l G (fun q : Nat => s.heap.size ≤ q) c0 ((64 * e9) + 64) u13   hvu) (va_cwS 1 hts gL_law_L_isWithout rfl rfl rfl (by decide +kernel) ⟨Nat.le_of_ble_eq_true rfl, Nat.le_of_ble_eq_true rfl⟩) hK hNW hAA hO hS rfl hl.1 rfl (Nat.le_of_ble_eq_true rfl) dL_law_142 ⟨Nat.le_of_ble_eq_true rfl, Nat.le_of_ble_eq_true rfl⟩ (fun rr u29 H locs hw hO hS => ?_)
              obtain ⟨er, hw⟩ := hw
              subst er
              have hO : q_OB G (fun q : Nat => s.heap.size ≤ q) c0 ((64 * e9) + 64) u13 q_hT _ := hO
              refine br_ne0 (tgt := 150) hx hb dL_law_145 (by decide) (by decide) (fun h30 => ?_) (fun h30 => ?_)
              · skip
                refine nr_inc (d := 1) (v := e9 + 1) (lv' := [(2, .int (nI (e9 + 1))), (0, .ref b), (1, .ref c0)]) hx hb dL_law_150 (lv_sub hl [1, 2, 3] rfl) (k := 2) rfl rfl (by decide) rfl (fun ls hl => ?_)
                refine lv_goto (tgt := 65) hx hb dL_law_153 (by decide) ?_
                exact hn (by omega) u13 ls H locs (lv_sub hl [1, 2, 0] rfl) (q_OB_le hO (by omega)) (q_iv_le hvu (by omega)) hS
              · exact absurd h30 (by decide)
          · skip
            refine lv_aload_n hx hb dL_law_125 rfl (lv_at hl 2 rfl) ?_
            refine wcO (As := [.ref c0]) (ob0 := q_OB G (fun q : Nat => s.heap.size ≤ q) c0 ((64 * e9) + 64) u13 q_hT) (ob := fun (u : Unit) => q_OB G (fun q : Nat => s.heap.size ≤ q) c0 ((64 * e9) + 64) u13 q_hT) ⟨hx, hb, hml, hown, hts⟩ (m_isWhole l G (fun q : Nat => s.heap.size ≤ q) c0 ((64 * e9) + 64) u13 q_hT  hvu (by omega)) (va_cwS 1 hts gL_law_L_isWhole rfl rfl rfl (by decide +kernel) ⟨Nat.le_of_ble_eq_true rfl, Nat.le_of_ble_eq_true rfl⟩) hK hNW hAA hO hS rfl hl.1 rfl (Nat.le_of_ble_eq_true rfl) dL_law_126 ⟨Nat.le_of_ble_eq_true rfl, Nat.le_of_ble_eq_true rfl⟩ (fun rr u31 H locs hw hO hS => ?_)
            obtain ⟨er, hw⟩ := hw
            subst er
            have hO : q_OB G (fun q : Nat => s.heap.size ≤ q) c0 ((64 * e9) + 64) u13 q_hT _ := hO
            refine br_eq0 (tgt := 148) hx hb dL_law_129 (by decide) (by decide) (fun h32 => ?_) (fun h32 => ?_)
            · exact absurd h32 (by decide)
            · skip
              refine lv_iload_n hx hb dL_law_132 rfl (lv_at hl 3 rfl) ?_
              refine nr_bi (v := 25) hx hb dL_law_133 (by decide +kernel) ?_
              refine nr_rem hx hb dL_law_135 (by omega) (by decide) (by decide) ?_
              refine nr_bi (v := 14) hx hb dL_law_136 (by decide +kernel) ?_
              refine br_ine (tgt := 150) hx hb dL_law_138 (by decide) (by omega) (by decide) (fun h33 => ?_) (fun h33 => ?_)
              · skip
                refine nr_inc (d := 1) (v := e9 + 1) (lv' := [(2, .int (nI (e9 + 1))), (0, .ref b), (1, .ref c0)]) hx hb dL_law_150 (lv_sub hl [1, 2, 3] rfl) (k := 2) rfl rfl (by decide) rfl (fun ls hl => ?_)
                refine lv_goto (tgt := 65) hx hb dL_law_153 (by decide) ?_
                exact hn (by omega) u13 ls H locs (lv_sub hl [1, 2, 0] rfl) (q_OB_le hO (by omega)) (q_iv_le hvu (by omega)) hS
              · skip
                refine lv_aload_n hx hb dL_law_141 rfl (lv_at hl 2 rfl) ?_
                refine wcO (As := [.ref c0]) (ob0 := q_OB G (fun q : Nat => s.heap.size ≤ q) c0 ((64 * e9) + 64) u13 q_hT) (ob := fun (u : Unit) => q_OB G (fun q : Nat => s.heap.size ≤ q) c0 ((64 * e9) + 64) u13 q_hT) ⟨hx, hb, hml, hown, hts⟩ (m_isWithout l G (fun q : Nat => s.heap.size ≤ q) c0 ((64 * e9) + 64) u13   hvu) (va_cwS 1 hts gL_law_L_isWithout rfl rfl rfl (by decide +kernel) ⟨Nat.le_of_ble_eq_true rfl, Nat.le_of_ble_eq_true rfl⟩) hK hNW hAA hO hS rfl hl.1 rfl (Nat.le_of_ble_eq_true rfl) dL_law_142 ⟨Nat.le_of_ble_eq_true rfl, Nat.le_of_ble_eq_true rfl⟩ (fun rr u34 H locs hw hO hS => ?_)
                obtain ⟨er, hw⟩ := hw
                subst er
                have hO : q_OB G (fun q : Nat => s.heap.size ≤ q) c0 ((64 * e9) + 64) u13 q_hT _ := hO
                refine br_ne0 (tgt := 150) hx hb dL_law_145 (by decide) (by decide) (fun h35 => ?_) (fun h35 => ?_)
                · skip
                  refine nr_inc (d := 1) (v := e9 + 1) (lv' := [(2, .int (nI (e9 + 1))), (0, .ref b), (1, .ref c0)]) hx hb dL_law_150 (lv_sub hl [1, 2, 3] rfl) (k := 2) rfl rfl (by decide) rfl (fun ls hl => ?_)
                  refine lv_goto (tgt := 65) hx hb dL_law_153 (by decide) ?_
                  exact hn (by omega) u13 ls H locs (lv_sub hl [1, 2, 0] rfl) (q_OB_le hO (by omega)) (q_iv_le hvu (by omega)) hS
                · exact absurd h35 (by decide)
theorem law_loop {p : Program} {e : Env} {s : State} {m : MethodId} {below : List Frame} {meth : Method} {c : Code} (l : Launch) {b L : Nat} {xs : Nat → Int32} (hL : L ≤ 260) (C0 : lw_At p s m meth c b L xs) {G : gG} (hK : va_K G.1 vwCl (tyL G.2) s) (hNW : NW s) {c0 : Nat} : ∀ (n e9 : Nat) (M0 : Nat → Nat), e9 + n = 71 → e9 ≤ 70 → ∀ (ls : Array Slot) (H : Heap) (locs : List Loc), lv_has ls 4 [(0, .ref b), (1, .ref c0), (2, .int (nI e9))] → q_OB G (fun q : Nat => s.heap.size ≤ q) c0 (64 * e9) M0 q_hT H → q_iv (64 * e9) M0 → va_S (fun q : Nat => s.heap.size ≤ q) s.heap H locs → W p l e room_1 s m #[Value.ref b] below meth c H locs 600000 7302250 (lw_Z below #[Value.ref b] s) (F0 m 65 ls [])
  | 0, e9, M0, h1, h2, ls, H, locs, hl, hO, hv, hS => by exfalso; omega
  | n + 1, e9, M0, h1, h2, ls, H, locs, hl, hO, hv, hS => law_step l hL C0 hK hNW h2 hl hO hv hS (fun h M1 ls H locs hl hO hv hS => law_loop l hL C0 hK hNW n (e9 + 1) M1 (by omega) (by omega) ls H locs hl hO hv hS)
set_option maxHeartbeats 8000000 in
set_option maxRecDepth 100000 in
theorem law_main {p : Program} {e : Env} {s : State} {m : MethodId} {below : List Frame} {meth : Method} {c : Code} (l : Launch) {b L : Nat} {xs : Nat → Int32} (hL : L ≤ 260) (C0 : lw_At p s m meth c b L xs) {G : gG} (hK : va_K G.1 vwCl (tyL G.2) s) (hNW : NW s) {c0 : Nat} {ls : Array Slot} {H : Heap} {locs : List Loc} (hl : lv_has ls 4 [(0, .ref b), (1, .ref c0)]) (hO : q_OB G (fun q : Nat => s.heap.size ≤ q) c0 0 iM q_hE H) (hS : va_S (fun q : Nat => s.heap.size ≤ q) s.heap H locs) : W p l e room_1 s m #[Value.ref b] below meth c H locs 600000 7302250 (lw_Z below #[Value.ref b] s) (F0 m 8 ls []) := by
  obtain ⟨hx, hb, hr, hml, hown, hts0, hX, hbl, hlocks, hgv⟩ := id C0
  have hts : ∀ w ∈ wsL_law, w.before #[Value.ref b] s = true := fun w h => hts0 w (wsL_law_in w h)
  have hAA : ∀ q : Nat, s.heap.size ≤ q → (fun q : Nat => s.heap.size ≤ q) q := fun _ h => h
  have hbA : ¬ (fun q : Nat => s.heap.size ≤ q) b := Nat.not_le.mpr hbl
  refine lv_aload_n hx hb dL_law_8 rfl (lv_at hl 1 rfl) ?_
  refine wcO (As := [.ref c0]) (ob0 := q_OB G (fun q : Nat => s.heap.size ≤ q) c0 0 iM q_hE) (ob := fun (u : Unit) => q_OB G (fun q : Nat => s.heap.size ≤ q) c0 0 iM q_hE) ⟨hx, hb, hml, hown, hts⟩ (m_isWhole l G (fun q : Nat => s.heap.size ≤ q) c0 0 iM q_hE  iM_iv (by decide)) (va_cwS 1 hts gL_law_L_isWhole rfl rfl rfl (by decide +kernel) ⟨Nat.le_of_ble_eq_true rfl, Nat.le_of_ble_eq_true rfl⟩) hK hNW hAA hO hS rfl hl.1 rfl (Nat.le_of_ble_eq_true rfl) dL_law_9 ⟨Nat.le_of_ble_eq_true rfl, Nat.le_of_ble_eq_true rfl⟩ (fun rr u1 H locs hw hO hS => ?_)
  obtain ⟨er, hw⟩ := hw
  subst er
  have hO : q_OB G (fun q : Nat => s.heap.size ≤ q) c0 0 iM q_hE _ := hO
  refine br_eq0 (tgt := 61) hx hb dL_law_12 (by decide) (by decide) (fun h2 => ?_) (fun h2 => ?_)
  · exact absurd h2 (by decide)
  · skip
    refine lv_aload_n hx hb dL_law_15 rfl (lv_at hl 1 rfl) ?_
    refine nr_const (v := 2) hx hb dL_law_16 rfl ?_
    refine k_total ⟨hx, hb, hml, hown, hts⟩ (cwV 1 hts gL_law_X5_total rfl rfl rfl (by decide +kernel) ⟨Nat.le_of_ble_eq_true rfl, Nat.le_of_ble_eq_true rfl⟩) hK hNW hAA (by decide) hO hS hl.1 (Nat.le_of_ble_eq_true rfl) dL_law_17 ⟨Nat.le_of_ble_eq_true rfl, Nat.le_of_ble_eq_true rfl⟩ (fun H locs hO hS => ?_)
    have hO : q_OB G (fun q : Nat => s.heap.size ≤ q) c0 0 iM q_hE _ := hO
    refine nr_top (y := nI (pc4 (ow iM 0) 7)) (to_2) ?_
    refine nr_top (y := nI 24) (congrArg nI iM_pc) ?_
    refine nr_bi (v := 24) hx hb dL_law_20 (by decide +kernel) ?_
    refine br_ine (tgt := 61) hx hb dL_law_22 (by decide) (by decide) (by decide) (fun h3 => ?_) (fun h3 => ?_)
    · exact absurd (by decide) h3
    · skip
      refine lv_aload_n hx hb dL_law_25 rfl (lv_at hl 1 rfl) ?_
      refine nr_const (v := 1) hx hb dL_law_26 rfl ?_
      refine k_total ⟨hx, hb, hml, hown, hts⟩ (cwV 1 hts gL_law_X5_total rfl rfl rfl (by decide +kernel) ⟨Nat.le_of_ble_eq_true rfl, Nat.le_of_ble_eq_true rfl⟩) hK hNW hAA (by decide) hO hS hl.1 (Nat.le_of_ble_eq_true rfl) dL_law_27 ⟨Nat.le_of_ble_eq_true rfl, Nat.le_of_ble_eq_true rfl⟩ (fun H locs hO hS => ?_)
      have hO : q_OB G (fun q : Nat => s.heap.size ≤ q) c0 0 iM q_hE _ := hO
      refine nr_top (y := nI (iM 198)) (to_1) ?_
      refine nr_top (y := nI 5) (congrArg nI iM_5) ?_
      refine nr_const (v := 5) hx hb dL_law_30 rfl ?_
      refine br_ine (tgt := 61) hx hb dL_law_31 (by decide) (by decide) (by decide) (fun h4 => ?_) (fun h4 => ?_)
      · exact absurd (by decide) h4
      · skip
        refine lv_aload_n hx hb dL_law_34 rfl (lv_at hl 1 rfl) ?_
        refine k_undoN ⟨hx, hb, hml, hown, hts⟩ (cwV 0 hts gL_law_X5_undo rfl rfl rfl (by decide +kernel) ⟨Nat.le_of_ble_eq_true rfl, Nat.le_of_ble_eq_true rfl⟩) hK hNW hAA  hO hS hl.1 (Nat.le_of_ble_eq_true rfl) dL_law_35 ⟨Nat.le_of_ble_eq_true rfl, Nat.le_of_ble_eq_true rfl⟩ (fun H locs hO hS => ?_)
        have hO : q_OB G (fun q : Nat => s.heap.size ≤ q) c0 0 iM q_hE _ := hO
        refine lv_bipush (v := (-5)) hx hb dL_law_38 (by decide +kernel) ?_
        refine lv_icmp_ne (tgt := 61) hx hb dL_law_40 (by decide) (fun h5 => ?_) (fun h5 => ?_)
        · exact absurd rfl h5
        · skip
          refine lv_aload_n hx hb dL_law_43 rfl (lv_at hl 1 rfl) ?_
          refine k_restore ⟨hx, hb, hml, hown, hts⟩ (cwV 0 hts gL_law_X5_restore rfl rfl rfl (by decide +kernel) ⟨Nat.le_of_ble_eq_true rfl, Nat.le_of_ble_eq_true rfl⟩) hK hNW hAA  hO hS hl.1 (Nat.le_of_ble_eq_true rfl) dL_law_44 ⟨Nat.le_of_ble_eq_true rfl, Nat.le_of_ble_eq_true rfl⟩ (fun H locs hO hS => ?_)
          have hO : q_OB G (fun q : Nat => s.heap.size ≤ q) c0 0 iM q_hE _ := hO
          refine lv_bipush (v := (-5)) hx hb dL_law_47 (by decide +kernel) ?_
          refine lv_icmp_ne (tgt := 61) hx hb dL_law_49 (by decide) (fun h6 => ?_) (fun h6 => ?_)
          · exact absurd rfl h6
          · skip
            refine lv_aload_n hx hb dL_law_52 rfl (lv_at hl 1 rfl) ?_
            refine k_perform ⟨hx, hb, hml, hown, hts⟩ (cwV 0 hts gL_law_X5_perform rfl rfl rfl (by decide +kernel) ⟨Nat.le_of_ble_eq_true rfl, Nat.le_of_ble_eq_true rfl⟩) hK hNW hAA  hO hS hl.1 (Nat.le_of_ble_eq_true rfl) dL_law_53 ⟨Nat.le_of_ble_eq_true rfl, Nat.le_of_ble_eq_true rfl⟩ (fun H locs hO hS => ?_)
            have hO : q_OB G (fun q : Nat => s.heap.size ≤ q) c0 0 iM q_hE _ := hO
            refine lv_bipush (v := (-100)) hx hb dL_law_56 (by decide +kernel) ?_
            refine lv_icmp_eq (tgt := 63) hx hb dL_law_58 (by decide) (fun h7 => ?_) (fun h7 => ?_)
            · skip
              refine nr_const (v := 0) hx hb dL_law_63 rfl ?_
              refine lv_istore_n (lv' := [(2, .int (nI 0)), (0, .ref b), (1, .ref c0)]) hx hb dL_law_64 rfl hl (by decide) rfl (fun ls hl => ?_)
              exact law_loop l hL C0 hK hNW 71 0 iM rfl (by omega) ls H locs (lv_sub hl [1, 2, 0] rfl) (q_OB_T hO) iM_iv hS
            · exact absurd rfl h7
