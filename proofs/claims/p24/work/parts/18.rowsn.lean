/-! the same rows for methods that need the nest mates' words -/
def NW (U : State) : Prop := va_Nw (.methodLinkNest RX0 67 yX5_contains RX5) U ∧ va_Nw (.methodLinkNest RX0 51 yX5_without RX5) U ∧ va_Nw (.methodLinkNest RX4 19 yX5_isCousin RX5) U ∧ va_Nw (.methodLinkNest RX4 41 yX5_contains RX5) U ∧ va_Nw (.methodLinkNest RX5 34 yX3_init RX5) U
theorem NW.warm {s U : State} (hW : s.WarmedH U.vm) (h : NW s) : NW U := ⟨va_Nw.warmM hW h.1, va_Nw.warmM hW h.2.1, va_Nw.warmM hW h.2.2.1, va_Nw.warmM hW h.2.2.2.1, va_Nw.warmM hW h.2.2.2.2⟩
theorem NW.same {u U : State} (e : u.vm = U.vm) (h : NW u) : NW U := ⟨va_Nw.same rfl e h.1, va_Nw.same rfl e h.2.1, va_Nw.same rfl e h.2.2.1, va_Nw.same rfl e h.2.2.2.1, va_Nw.same rfl e h.2.2.2.2⟩
abbrev RDn (G : gG) (ws : va_W) (av : List Value) : Array Value → State → Prop := va_Pc av (fun U => va_P G.1 vwCl ws U.heap ∧ va_K G.1 vwCl (tyL G.2) U ∧ NW U)
abbrev WRn (G : gG) (ws : va_W) (sz : Nat) (av : List Value) : Array Value → State → Prop := va_Pc av (fun U => U.heap.size = sz ∧ va_P G.1 vwCl ws U.heap ∧ va_K G.1 vwCl (tyL G.2) U ∧ va_D (fun _ => True) ws ∧ NW U)
theorem rdMn {l : Launch} {y : MethodName} {ws ws' : List Cond} {rm : Room} {cc : ByteArray} {maxL : Nat} {ret : Option FieldType} {G : gG} {wl : va_W} {av : List Value} {r : Int32} {C : String} (hC : C = y.cls) (hy : plainName y.cls = true) (hw : ws = Cond.code y cc maxL ret :: ws') (hav : (lg_sl av).length ≤ maxL)
    (body : ∀ p e s m below meth c (ls : Array Slot), p.tables.exec = Jvm.exec → c.code = cc → meth.sig.returnType = ret → (∀ w ∈ ws, w.before av.toArray s = true) → s.vm.findClass C = some m.cls → meth.locks = false → c.maxLocals = maxL → va_P G.1 vwCl wl s.heap → va_K G.1 vwCl (tyL G.2) s → NW s → lv_has ls maxL (lv_args 0 av) →
      W p l e rm s m av.toArray below meth c s.heap [] 0 0 (MQ below (QcRead r) av.toArray s 0 0 noF) (F0 m 0 ls [])) : Met l y ws rm (RDn G wl av) (QcRead r) 0 0 noF := by
  refine Met.ofW (cc := cc) (maxL := maxL) (ret := ret) hy hw ?_
  intro p e s m args below meth c s₁ B hml hv
  obtain ⟨rfl, hP, hK, hN⟩ := hv
  have hts := atoms_spec (ws := ws) B.pre
  have hl := lv_entry av (n := maxL) hav
  rw [lg_entry_eq]
  generalize (lg_sl av ++ List.replicate (maxL - (lg_sl av).length) Slot.unset).toArray = ls at hl ⊢
  exact body p e s m below meth c ls B.exec B.bytes B.returns hts (by rw [hC]; exact findClass_of_methodNamed B.named) B.notSynchronized hml hP hK hN hl
theorem wrMn {l : Launch} {y : MethodName} {ws ws' : List Cond} {rm : Room} {cc : ByteArray} {maxL : Nat} {ret : Option FieldType} {G : gG} {wl : va_W} {sz : Nat} {av : List Value} {mc ms : Nat} {C : String} {Qf : (Nat → Prop) → Array Value → State → Outcome → State → Prop} (hC : C = y.cls) (hy : plainName y.cls = true) (hw : ws = Cond.code y cc maxL ret :: ws') (hav : (lg_sl av).length ≤ maxL)
    (body : ∀ p e s m below meth c (ls : Array Slot) (A : Nat → Prop), p.tables.exec = Jvm.exec → c.code = cc → meth.sig.returnType = ret → (∀ w ∈ ws, w.before av.toArray s = true) → s.vm.findClass C = some m.cls → meth.locks = false → c.maxLocals = maxL → meth.name = y.name → va_P G.1 vwCl wl s.heap → va_K G.1 vwCl (tyL G.2) s → NW s → va_D A wl → (∀ q : Nat, s.heap.size ≤ q → A q) → va_S A s.heap s.heap [] → lv_has ls maxL (lv_args 0 av) →
      W p l e rm s m av.toArray below meth c s.heap [] 0 0 (MQ below (Qf A) av.toArray s mc ms A) (F0 m 0 ls [])) : Met l y ws rm (WRn G wl sz av) (Qf (va_A wl sz)) mc ms (va_A wl sz) := by
  refine Met.ofW (cc := cc) (maxL := maxL) (ret := ret) hy hw ?_
  intro p e s m args below meth c s₁ B hml hv
  obtain ⟨rfl, hsz, hP, hK, hD0, hN⟩ := hv
  have hts := atoms_spec (ws := ws) B.pre
  subst hsz
  have hD := hD0.self (sz := s.heap.size)
  have hA : ∀ q : Nat, s.heap.size ≤ q → va_A wl s.heap.size q := fun q h => Or.inr h
  have hl := lv_entry av (n := maxL) hav
  rw [lg_entry_eq]
  generalize (lg_sl av ++ List.replicate (maxL - (lg_sl av).length) Slot.unset).toArray = ls at hl ⊢
  exact body p e s m below meth c ls _ B.exec B.bytes B.returns hts (by rw [hC]; exact findClass_of_methodNamed B.named) B.notSynchronized hml (name_of_methodNamed B.named B.method).1 hP hK hN hD hA va_S.rf hl
section RWN
variable {p : Program} {l : Launch} {e : Env} {R : Room} {s : State} {m : MethodId} {args : Array Value} {below : List Frame} {meth : Method} {c : Code} {H : Heap} {locs : List Loc} {cells slots : Nat} {Q : State → Prop}
variable {cc : ByteArray} {pc : Nat} {ls : Array Slot} {rest : List Value}
variable {y : MethodName} {bytes : ByteArray} {maxL nL n index mc ms : Nat} {ret : Option FieldType} {wsy : List Cond} {rm : Room} {Ts : List Cond} {own C : String} {b : Addr} {As st : List Value} {G : gG}
theorem rd_pren {wl : va_W} {q : vw_C} {ci q0 : Nat} {fs : List Value} (hK : va_K G.1 vwCl (tyL G.2) s) (hP : va_P G.1 vwCl wl H) (hN : NW s) (hc : vwCl[ci]? = some q) (he : wl[q0]? = some (b, .inr (ci, fs))) : PreV s H q.1 b (RDn G wl (.ref b :: As)) As := ⟨fun a U g mk z => ⟨z.1, z.2.1, va_K.moved (u := U) (U := U.calling g mk a) (Vm.Alike.refl U.vm) z.2.2.1, NW.same rfl z.2.2.2⟩, va_recv hK hP hc he, fun U hU hW => ⟨rfl, by rw [hU]; exact hP, va_K.moved hW.alike hK, hN.warm hW⟩⟩
theorem rcVn {wl : va_W} {r : Int32} {q : vw_C} {fs : List Value} (S : CallFix p m c cc nL s args Ts own) (hM : Met l y wsy rm (RDn G wl (.ref b :: As)) (QcRead r) 0 0 noF) (cw : CallW R s args own q.1 index y bytes maxL ret wsy rm 0 0 n) (hK : va_K G.1 vwCl (tyL G.2) s) (hP : va_P G.1 vwCl wl H) (hN : NW s) (ci q0 : Nat) (hc : vwCl[ci]? = some q) (he : wl[q0]? = some (b, .inr (ci, fs)))
    (hn : As.length = n) (hsize : ls.size = nL) (hst : st = As.reverse ++ .ref b :: rest) (hW : (rest.map fun v => v.category).sum ≤ 8) (hdg : decode cc pc = .ok (.invokevirtual index, 3)) (hf : cells ≤ R.cells ∧ slots ≤ R.slots)
    (kk : W p l e R s m args below meth c H locs cells slots Q (F0 m (pc + 3) ls (.int r :: rest))) : W p l e R s m args below meth c H locs cells slots Q (F0 m pc ls st) :=
  rc_run (fun _ h => h) (va_runV S hM cw (rd_pren hK hP hN hc he) rfl hn hsize hst (lv_room hW) hdg hf) kk
theorem wr_pren {wl : va_W} {q : vw_C} {ci q0 : Nat} {fs : List Value} {A : Nat → Prop} (hK : va_K G.1 vwCl (tyL G.2) s) (hP : va_P G.1 vwCl wl H) (hD : va_D A wl) (hN : NW s) (hc : vwCl[ci]? = some q) (he : wl[q0]? = some (b, .inr (ci, fs))) : PreV s H q.1 b (WRn G wl H.size (.ref b :: As)) As := ⟨fun a U g mk z => ⟨z.1, z.2.1, z.2.2.1, va_K.moved (u := U) (U := U.calling g mk a) (Vm.Alike.refl U.vm) z.2.2.2.1, z.2.2.2.2.1, NW.same rfl z.2.2.2.2.2⟩, va_recv hK hP hc he, fun U hU hW => ⟨rfl, by rw [hU], by rw [hU]; exact hP, va_K.moved hW.alike hK, hD.weaken (fun _ _ _ _ => trivial), hN.warm hW⟩⟩
theorem wcVin {S : Type} {post : Int32 → S → Prop} {ws wc wr : va_W} {w1 wn : S → va_W} {A0 : Nat → Prop} {H0 : Heap} {q : vw_C} {fs : List Value} (S0 : CallFix p m c cc nL s args Ts own) (hM : Met l y wsy rm (WRn G wc H.size (.ref b :: As)) (va_Qi post (WB G (va_A wc H.size) w1) (va_A wc H.size)) mc ms (va_A wc H.size)) (cw : CallW R s args own q.1 index y bytes maxL ret wsy rm mc ms n) (hK : va_K G.1 vwCl (tyL G.2) s) (hN : NW s) (hP : va_P G.1 vwCl ws H) (hD : va_D A0 ws) (hS : va_S A0 H0 H locs) (hA : ∀ q, H0.size ≤ q → A0 q)
    (isC isR js : List Nat) (hC : isC.map (fun i => ws[i]?) = wc.map some) (hnC : va_nd isC = true) (hR : isR.map (fun i => ws[i]?) = wr.map some) (hnR : va_nd isR = true) (hdis : ∀ i ∈ isR, i ∉ isC) (hnd : va_nd js = true) (hwn : ∀ u, js.map (fun i => (wr ++ w1 u)[i]?) = (wn u).map some) (ci q0 : Nat) (hc : vwCl[ci]? = some q) (he : wc[q0]? = some (b, .inr (ci, fs)))
    (hn : As.length = n) (hsize : ls.size = nL) (hst : st = As.reverse ++ .ref b :: rest) (hW : (rest.map fun v => v.category).sum ≤ 8) (hdg : decode cc pc = .ok (.invokevirtual index, 3)) (hf : cells + mc ≤ R.cells ∧ slots + ms ≤ R.slots)
    (kk : ∀ (r : Int32) (u : S) (H1 : Heap) (locs1 : List Loc), post r u → va_P G.1 vwCl (wn u) H1 → va_D A0 (wn u) → va_S A0 H0 H1 locs1 → W p l e R s m args below meth c H1 locs1 (cells + mc) (slots + ms) Q (F0 m (pc + 3) ls (.int r :: rest))) : W p l e R s m args below meth c H locs cells slots Q (F0 m pc ls st) := by
  have hPc : va_P G.1 vwCl wc H := hP.sub isC (fm_of hC)
  have hDc := hD.sub isC hnC hC
  have hF := va_free hD hS hA isC hC
  refine va_calli (va_runV S0 hM cw (wr_pren hK hPc hDc hN hc he) rfl hn hsize hst (lv_room hW) hdg hf) hS (fun q _ h => hF q h) hF (fun r u t H1 locs1 ht hvm hp hB hz hk hS1 => ?_)
  obtain ⟨g1, g2⟩ := wjoin hP hD isC isR js hC hR hnR hdis hnd hwn hF hB ht hk
  exact kk r u H1 locs1 hp g1 g2 hS1
theorem wcVvn {S : Type} {post : S → Prop} {ws wc wr : va_W} {w1 wn : S → va_W} {A0 : Nat → Prop} {H0 : Heap} {q : vw_C} {fs : List Value} (S0 : CallFix p m c cc nL s args Ts own) (hM : Met l y wsy rm (WRn G wc H.size (.ref b :: As)) (va_Qv post (WB G (va_A wc H.size) w1) (va_A wc H.size)) mc ms (va_A wc H.size)) (cw : CallW R s args own q.1 index y bytes maxL ret wsy rm mc ms n) (hK : va_K G.1 vwCl (tyL G.2) s) (hN : NW s) (hP : va_P G.1 vwCl ws H) (hD : va_D A0 ws) (hS : va_S A0 H0 H locs) (hA : ∀ q, H0.size ≤ q → A0 q)
    (isC isR js : List Nat) (hC : isC.map (fun i => ws[i]?) = wc.map some) (hnC : va_nd isC = true) (hR : isR.map (fun i => ws[i]?) = wr.map some) (hnR : va_nd isR = true) (hdis : ∀ i ∈ isR, i ∉ isC) (hnd : va_nd js = true) (hwn : ∀ u, js.map (fun i => (wr ++ w1 u)[i]?) = (wn u).map some) (ci q0 : Nat) (hc : vwCl[ci]? = some q) (he : wc[q0]? = some (b, .inr (ci, fs)))
    (hn : As.length = n) (hsize : ls.size = nL) (hst : st = As.reverse ++ .ref b :: rest) (hW : (rest.map fun v => v.category).sum ≤ 8) (hdg : decode cc pc = .ok (.invokevirtual index, 3)) (hf : cells + mc ≤ R.cells ∧ slots + ms ≤ R.slots)
    (kk : ∀ (u : S) (H1 : Heap) (locs1 : List Loc), post u → va_P G.1 vwCl (wn u) H1 → va_D A0 (wn u) → va_S A0 H0 H1 locs1 → W p l e R s m args below meth c H1 locs1 (cells + mc) (slots + ms) Q (F0 m (pc + 3) ls rest)) : W p l e R s m args below meth c H locs cells slots Q (F0 m pc ls st) := by
  have hPc : va_P G.1 vwCl wc H := hP.sub isC (fm_of hC)
  have hDc := hD.sub isC hnC hC
  have hF := va_free hD hS hA isC hC
  refine va_callv (va_runV S0 hM cw (wr_pren hK hPc hDc hN hc he) rfl hn hsize hst (lv_room hW) hdg hf) hS (fun q _ h => hF q h) hF (fun u t H1 locs1 ht hvm hp hB hz hk hS1 => ?_)
  obtain ⟨g1, g2⟩ := wjoin hP hD isC isR js hC hR hnR hdis hnd hwn hF hB ht hk
  exact kk u H1 locs1 hp g1 g2 hS1
end RWN
