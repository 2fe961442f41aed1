/-! THE CLAIM OUT OF ONE WALK OF THE LAW'S BODY. Your part is whole_start (and what it stands on); all else here is the same for every law, but numbers. -/
def R_law : String := "CousinSharesLaw"
def lw_P (b : Addr) (xs : List Int32) (args : Array Value) (s : State) : Prop := args = #[.ref b] ∧ s.IntsAt b xs ∧ xs.length ≤ 2048 ∧ (Jvm.Cond.and given_1 narrow_1).before args s = true
def lw_Q (_ : Array Value) (s : State) (o : Outcome) (t : State) : Prop := o = .returned (some (.int 1)) ∧ Framed s o t [] 600000 7302250
def lw_Z (below : List Frame) (a : Array Value) (s : State) : State → Prop := fun t => ∃ o, t.status = .running ∧ Ended t below o ∧ lw_Q a s o t
/-- the law's own end, with 1 on the stack, nothing written that was there before, its room as the claim has it -/
theorem lw_ret {p : Program} {l : Launch} {e : Env} {s : State} {m : MethodId} {below : List Frame} {meth : Method} {c : Code} {b : Nat} (hx : p.tables.exec = Jvm.exec) (hb : c.code = code) (hr : meth.sig.returnType = ret) (hlocks : meth.locks = false) {pc : Nat} {H : Heap} {ls : Array Slot} (hdg : decode code pc = .ok (.ireturn, 1)) : W p l e room_1 s m #[Value.ref b] below meth c H [] 600000 7302250 (lw_Z below #[Value.ref b] s) (F0 m pc ls [.int 1]) := by
  intro T hT X
  obtain ⟨fs, hret, hrun, hended, hW, hframe⟩ := X.leave (v := some (.int 1)) (hlocks := hlocks) (fun h => by rw [hr] at h; cases h)
  have hmeth' : T.vm.method? m = some meth := X.method'
  refine ⟨T.setFrames fs, ?_, .returned (some (.int 1)), hrun, hended, rfl, ⟨_, rfl⟩, hW, hframe⟩
  jvm_step X.here [X.here.top, hx, hb, hdg, hmeth', hr, ret, narrow_b1]
  (try refine ⟨rfl, ?_⟩); (try refine ⟨rfl, ?_⟩)
  first | (intro acts; rw [hret _ acts rfl rfl rfl]) | rw [hret _ _ rfl rfl rfl]
  exact Steps.refl _
/-- what holds at the law's entry: the machine, the code, the tables' words (any of lw_tbl by 'hts w (by decide +kernel)'), the script of L ints xs at the cell b, what the Statement gives of the start (any of its parts by flat_of_before) -/
def lw_At (p : Program) (s : State) (m : MethodId) (meth : Method) (c : Code) (b L : Nat) (xs : Nat → Int32) : Prop :=
  p.tables.exec = Jvm.exec ∧ c.code = code ∧ meth.sig.returnType = ret ∧ c.maxLocals = 4 ∧ s.vm.findClass R_law = some m.cls ∧ (∀ w ∈ lw_tbl, w.before #[Value.ref b] s = true) ∧ va_X b L xs s s.heap ∧ b < s.heap.size ∧ meth.locks = false ∧ (Jvm.Cond.and given_1 narrow_1).before #[Value.ref b] s = true
set_option maxHeartbeats 8000000 in
set_option maxRecDepth 100000 in
theorem law_step {p : Program} {e : Env} {s : State} {m : MethodId} {below : List Frame} {meth : Method} {c : Code} (l : Launch) {b L : Nat} {xs : Nat → Int32} (hL : L ≤ 2048) (C0 : lw_At p s m meth c b L xs) {G : gG} (hK : va_K G.1 vwCl (tyL G.2) s) (hNW : NW s) {c0 z0 : Nat} {i : Nat} (hi6 : i ≤ 3000) {ls : Array Slot} {H : Heap} {locs : List Loc} (hl : lv_has ls 4 [(0, .ref b), (1, .ref c0), (2, .ref z0), (3, .int (nI i))]) (hLX : LX G (fun q : Nat => s.heap.size ≤ q) c0 z0 H) (hS : va_S (fun q : Nat => s.heap.size ≤ q) s.heap H locs) (hn : i + 4 ≤ L → ∀ (ls : Array Slot) (H : Heap) (locs : List Loc), lv_has ls 4 [(0, .ref b), (1, .ref c0), (2, .ref z0), (3, .int (nI (i + 4)))] → LX G (fun q : Nat => s.heap.size ≤ q) c0 z0 H → va_S (fun q : Nat => s.heap.size ≤ q) s.heap H locs → W p l e room_1 s m #[Value.ref b] below meth c H locs 600000 7302250 (lw_Z below #[Value.ref b] s) (F0 m 18 ls [])) : W p l e room_1 s m #[Value.ref b] below meth c H locs 600000 7302250 (lw_Z below #[Value.ref b] s) (F0 m 18 ls []) := by
  obtain ⟨hx, hb, hr, hml, hown, hts0, hX, hbl, hlocks, hgv⟩ := id C0
  have hts : ∀ w ∈ wsL_law, w.before #[Value.ref b] s = true := fun w h => hts0 w (wsL_law_in w h)
  have hAA : ∀ q : Nat, s.heap.size ≤ q → (fun q : Nat => s.heap.size ≤ q) q := fun _ h => h
  have hbA : ¬ (fun q : Nat => s.heap.size ≤ q) b := Nat.not_le.mpr hbl
  refine lv_iload_n hx hb dL_law_18 rfl (lv_at hl 3 rfl) ?_
  refine lv_aload_n hx hb dL_law_19 rfl (lv_at hl 0 rfl) ?_
  refine nr_slen hx hb hX hbl hbA hS dL_law_20 ?_
  refine nr_const (v := 4) hx hb dL_law_21 rfl ?_
  refine lv_isub hx hb dL_law_22 ?_
  refine lv_icmp_gt (tgt := 703) hx hb dL_law_23 (by decide) (fun h => ?_) (fun h => ?_)
  · refine va_forget (fun q hq => hS.2.2 q hq) ?_
    refine lv_iconst (v := 1) hx hb dL_law_703 (by decide) ?_
    exact lw_ret hx hb hr hlocks dL_law_704
  · have hi : i + 4 ≤ L := (by rw [sub_lt (by omega) (by omega) (by omega)] at h; omega)
    refine lv_aload_n hx hb dL_law_26 rfl (lv_at hl 0 rfl) ?_
    refine lv_iload_n hx hb dL_law_27 rfl (lv_at hl 3 rfl) ?_
    refine nr_sld hx hb hX hbl hbA hS (j := i) (by omega) hL dL_law_28 ?_
    refine nr_bi (v := 31) hx hb dL_law_29 (by decide +kernel) ?_
    refine lv_iand hx hb dL_law_31 ?_
    obtain ⟨a, ha, ea⟩ := nI_and31 (xs i)
    refine nr_top ea ?_
    have hk : ∀ (ls : Array Slot) (H : Heap) (locs : List Loc), lv_has ls 4 [(0, .ref b), (1, .ref c0), (2, .ref z0), (3, .int (nI i))] → LX G (fun q : Nat => s.heap.size ≤ q) c0 z0 H → va_S (fun q : Nat => s.heap.size ≤ q) s.heap H locs → W p l e room_1 s m #[Value.ref b] below meth c H locs 600000 7302250 (lw_Z below #[Value.ref b] s) (F0 m 697 ls []) := by
      intro ls H locs hl hLX hS
      refine nr_inc (d := 4) (v := i + 4) (lv' := [(3, .int (nI (i + 4))), (0, .ref b), (1, .ref c0), (2, .ref z0)]) hx hb dL_law_697 hl (k := 3) rfl rfl (by decide) rfl (fun ls hl => ?_)
      refine lv_goto (tgt := 18) hx hb dL_law_700 (by decide) ?_
      exact hn hi ls H locs (lv_sub hl [1, 2, 3, 0] rfl) hLX hS
    rcases (show a = 0 ∨ a = 1 ∨ a = 2 ∨ a = 3 ∨ a = 4 ∨ a = 5 ∨ a = 6 ∨ a = 7 ∨ a = 8 ∨ a = 9 ∨ a = 10 ∨ a = 11 ∨ a = 12 ∨ a = 13 ∨ a = 14 ∨ a = 15 ∨ a = 16 ∨ a = 17 ∨ a = 18 ∨ a = 19 ∨ a = 20 ∨ 20 < a by omega) with rfl | rfl | rfl | rfl | rfl | rfl | rfl | rfl | rfl | rfl | rfl | rfl | rfl | rfl | rfl | rfl | rfl | rfl | rfl | rfl | rfl | h20
    · refine lv_tableIn (off := 100) (tgt := 132) hx hb dL_law_32 (by decide) (by decide) rfl (by decide) ?_
      exact law_plant hx hb hml hown hts hX hbl hL hK hNW hbA hAA hi hl hS hLX hk
    · refine lv_tableIn (off := 143) (tgt := 175) hx hb dL_law_32 (by decide) (by decide) rfl (by decide) ?_
      exact law_weigh hx hb hml hown hts hX hbl hL hK hNW hbA hAA hi hl hS hLX hk
    · refine lv_tableIn (off := 186) (tgt := 218) hx hb dL_law_32 (by decide) (by decide) rfl (by decide) ?_
      exact law_grudge hx hb hml hown hts hX hbl hL hK hNW hbA hAA hi hl hS hLX hk
    · refine lv_tableIn (off := 229) (tgt := 261) hx hb dL_law_32 (by decide) (by decide) rfl (by decide) ?_
      exact law_set hx hb hml hown hts hX hbl hL hK hNW hbA hAA hi hl hS hLX hk
    · refine lv_tableIn (off := 262) (tgt := 294) hx hb dL_law_32 (by decide) (by decide) rfl (by decide) ?_
      exact law_divide hx hb hml hown hts hX hbl hL hK hNW hbA hAA hi hl hS hLX hk
    · refine lv_tableIn (off := 285) (tgt := 317) hx hb dL_law_32 (by decide) (by decide) rfl (by decide) ?_
      exact law_give hx hb hml hown hts hX hbl hL hK hNW hbA hAA hi hl hS hLX hk
    · refine lv_tableIn (off := 318) (tgt := 350) hx hb dL_law_32 (by decide) (by decide) rfl (by decide) ?_
      exact law_trade hx hb hml hown hts hX hbl hL hK hNW hbA hAA hi hl hS hLX hk
    · refine lv_tableIn (off := 351) (tgt := 383) hx hb dL_law_32 (by decide) (by decide) rfl (by decide) ?_
      exact law_settle hx hb hml hown hts hX hbl hL hK hNW hbA hAA hi hl hS hLX hk
    · refine lv_tableIn (off := 364) (tgt := 396) hx hb dL_law_32 (by decide) (by decide) rfl (by decide) ?_
      exact law_type hx hb hml hown hts hX hbl hL hK hNW hbA hAA hi hl hS hLX hk
    · refine lv_tableIn (off := 389) (tgt := 421) hx hb dL_law_32 (by decide) (by decide) rfl (by decide) ?_
      exact law_clearText hx hb hml hown hts hX hbl hL hK hNW hbA hAA hi hl hS hLX hk
    · refine lv_tableIn (off := 402) (tgt := 434) hx hb dL_law_32 (by decide) (by decide) rfl (by decide) ?_
      exact law_perform hx hb hml hown hts hX hbl hL hK hNW hbA hAA hi hl hS hLX hk
    · refine lv_tableIn (off := 415) (tgt := 447) hx hb dL_law_32 (by decide) (by decide) rfl (by decide) ?_
      exact law_undo hx hb hml hown hts hX hbl hL hK hNW hbA hAA hi hl hS hLX hk
    · refine lv_tableIn (off := 428) (tgt := 460) hx hb dL_law_32 (by decide) (by decide) rfl (by decide) ?_
      exact law_keep hx hb hml hown hts hX hbl hL hK hNW hbA hAA hi hl hS hLX hk
    · refine lv_tableIn (off := 441) (tgt := 473) hx hb dL_law_32 (by decide) (by decide) rfl (by decide) ?_
      exact law_restore hx hb hml hown hts hX hbl hL hK hNW hbA hAA hi hl hS hLX hk
    · refine lv_tableIn (off := 454) (tgt := 486) hx hb dL_law_32 (by decide) (by decide) rfl (by decide) ?_
      exact law_plot hx hb hml hown hts hX hbl hL hK hNW hbA hAA hi hl hS hLX hk
    · refine lv_tableIn (off := 487) (tgt := 519) hx hb dL_law_32 (by decide) (by decide) rfl (by decide) ?_
      exact law_cousin hx hb hml hown hts hX hbl hL hK hNW hbA hAA hi hl hS hLX hk
    · refine lv_tableIn (off := 520) (tgt := 552) hx hb dL_law_32 (by decide) (by decide) rfl (by decide) ?_
      exact law_pair hx hb hml hown hts hX hbl hL hK hNW hbA hAA hi hl hS hLX hk
    · refine lv_tableIn (off := 563) (tgt := 595) hx hb dL_law_32 (by decide) (by decide) rfl (by decide) ?_
      exact law_total hx hb hml hown hts hX hbl hL hK hNW hbA hAA hi hl hS hLX hk
    · refine lv_tableIn (off := 586) (tgt := 618) hx hb dL_law_32 (by decide) (by decide) rfl (by decide) ?_
      exact law_ifDivided hx hb hml hown hts hX hbl hL hK hNW hbA hAA hi hl hS hLX hk
    · refine lv_tableIn (off := 619) (tgt := 651) hx hb dL_law_32 (by decide) (by decide) rfl (by decide) ?_
      exact law_bestTrade hx hb hml hown hts hX hbl hL hK hNW hbA hAA hi hl hS hLX hk
    · refine lv_tableIn (off := 642) (tgt := 674) hx hb dL_law_32 (by decide) (by decide) rfl (by decide) ?_
      exact law_bestWithout hx hb hml hown hts hX hbl hL hK hNW hbA hAA hi hl hS hLX hk
    · refine lv_tableOut (tgt := 697) hx hb dL_law_32 (by rw [nI_toInt (by omega)]; omega) (by decide) ?_
      exact hk ls H locs hl hLX hS
theorem law_loop {p : Program} {e : Env} {s : State} {m : MethodId} {below : List Frame} {meth : Method} {c : Code} (l : Launch) {b L : Nat} {xs : Nat → Int32} (hL : L ≤ 2048) (C0 : lw_At p s m meth c b L xs) {G : gG} (hK : va_K G.1 vwCl (tyL G.2) s) (hNW : NW s) {c0 z0 : Nat} : ∀ (n i : Nat), L < i + 4 * n → i ≤ L + 4 → ∀ (ls : Array Slot) (H : Heap) (locs : List Loc), lv_has ls 4 [(0, .ref b), (1, .ref c0), (2, .ref z0), (3, .int (nI i))] → LX G (fun q : Nat => s.heap.size ≤ q) c0 z0 H → va_S (fun q : Nat => s.heap.size ≤ q) s.heap H locs → W p l e room_1 s m #[Value.ref b] below meth c H locs 600000 7302250 (lw_Z below #[Value.ref b] s) (F0 m 18 ls [])
  | 0, i, h1, h2, ls, H, locs, hl, hLX, hS => law_step l hL C0 hK hNW (by omega) hl hLX hS (fun h => by exfalso; omega)
  | n + 1, i, h1, h2, ls, H, locs, hl, hLX, hS => law_step l hL C0 hK hNW (by omega) hl hLX hS (fun h ls H locs hl hLX hS => law_loop l hL C0 hK hNW n (i + 4) (by omega) (by omega) ls H locs hl hLX hS)
