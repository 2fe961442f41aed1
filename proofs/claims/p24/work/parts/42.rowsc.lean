/-! rows for constructors -/
def NC (U : State) : Prop := NW U ∧ va_AO RX1 U
theorem NC.warm {s U : State} (hW : s.WarmedH U.vm) (h : NC s) : NC U := ⟨NW.warm hW h.1, va_AO.moved hW.alike h.2⟩
theorem NC.same {u U : State} (e : u.vm = U.vm) (h : NC u) : NC U := ⟨NW.same e h.1, va_AO.moved (by rw [e]; exact Vm.Alike.refl _) h.2⟩
abbrev WRc (G : gG) (ws : va_W) (sz : Nat) (av : List Value) : Array Value → State → Prop := va_Pc av (fun U => U.heap.size = sz ∧ va_P G.1 vwCl ws U.heap ∧ va_K G.1 vwCl (tyL G.2) U ∧ va_D (fun _ => True) ws ∧ NC U)
theorem wrMc {l : Launch} {y : MethodName} {ws ws' : List Cond} {rm : Room} {cc : ByteArray} {maxL : Nat} {ret : Option FieldType} {G : gG} {wl : va_W} {sz : Nat} {av : List Value} {mc ms : Nat} {C : String} {Qf : (Nat → Prop) → Array Value → State → Outcome → State → Prop} (hC : C = y.cls) (hy : plainName y.cls = true) (hw : ws = Cond.code y cc maxL ret :: ws') (hav : (lg_sl av).length ≤ maxL)
    (body : ∀ p e s m below meth c (ls : Array Slot) (A : Nat → Prop), p.tables.exec = Jvm.exec → c.code = cc → meth.sig.returnType = ret → (∀ w ∈ ws, w.before av.toArray s = true) → s.vm.findClass C = some m.cls → meth.locks = false → c.maxLocals = maxL → meth.name = y.name → va_P G.1 vwCl wl s.heap → va_K G.1 vwCl (tyL G.2) s → NC s → va_D A wl → (∀ q : Nat, s.heap.size ≤ q → A q) → va_S A s.heap s.heap [] → lv_has ls maxL (lv_args 0 av) →
      W p l e rm s m av.toArray below meth c s.heap [] 0 0 (MQ below (Qf A) av.toArray s mc ms A) (F0 m 0 ls [])) : Met l y ws rm (WRc G wl sz av) (Qf (va_A wl sz)) mc ms (va_A wl sz) := by
  refine Met.ofW (cc := cc) (maxL := maxL) (ret := ret) hy hw ?_
  intro p e s m args below meth c s₁ B hml hv
  obtain ⟨rfl, hsz, hP, hK, hD0, hN⟩ := hv
  have hts := atoms_spec (ws := ws) B.pre
  subst hsz
  have hD := hD0.self (sz := s.heap.size)
  have hA : ∀ q : Nat, s.heap.size ≤ q → va_A wl s.heap.size q := fun q h => Or.inr h
  have hl := lv_entry av (n := maxL) hav
  rw [lg_entry_eq]
  generalize (lg_sl av ++ List.replicate (maxL - (lg_sl av).length) Slot.unset).toArray = ls at hl ⊢
  exact body p e s m below meth c ls _ B.exec B.bytes B.returns hts (by rw [hC]; exact findClass_of_methodNamed B.named) B.notSynchronized hml (name_of_methodNamed B.named B.method).1 hP hK hN hD hA va_S.rf hl
section RWC
variable {p : Program} {l : Launch} {e : Env} {R : Room} {s : State} {m : MethodId} {args : Array Value} {below : List Frame} {meth : Method} {c : Code} {H : Heap} {locs : List Loc} {cells slots : Nat} {Q : State → Prop}
variable {cc : ByteArray} {pc : Nat} {ls : Array Slot} {rest : List Value}
theorem nr_oinit (hx : p.tables.exec = Jvm.exec) (hb : c.code = cc) {own : String} (hown : s.vm.findClass own = some m.cls) {idx nL : Nat} (hml : c.maxLocals = nL) (hlink : (Cond.methodLink own idx Lib.objectInit).before args s = true) (hinst : (Cond.instanceMethod Lib.objectInit).before args s = true) (hcode : (Cond.code Lib.objectInit ⟨#[0xb1]⟩ 1 none).before args s = true) {a : Addr} (hsize : ls.size = nL) (hd : decode cc pc = .ok (.invokespecial idx, 3)) (hframes : 1 ≤ R.frames) (hlocals : (rest.map fun v => v.category).sum + 12 ≤ R.locals)
    (kk : W p l e R s m args below meth c H locs cells slots Q (F0 m (pc + 3) ls rest)) : W p l e R s m args below meth c H locs cells slots Q (F0 m pc ls (.ref a :: rest)) :=
  W.objInit hx hb hown hlink hinst hcode rfl (by rw [hml]; exact hsize) rfl hd hframes (by show 2 * 0 + (rest.map fun v => v.category).sum + 12 ≤ R.locals; omega) kk
theorem vcell_0 (cA : ClassId) (n : Nat) : vp_cell cA (n, .inl (nA (fun _ => 0))) = arrV cA n (fun _ => .int 0) := rfl
theorem nr_newi (hx : p.tables.exec = Jvm.exec) (hb : c.code = cc) (harr : (Cond.arrayClass .int).before args s = true) {G : gG} {ws : va_W} {A : Nat → Prop} {H0 : Heap} (hK : va_K G.1 vwCl (tyL G.2) s) (hP : va_P G.1 vwCl ws H) (hD : va_D A ws) (hS : va_S A H0 H locs) (hA : ∀ q, H0.size ≤ q → A q) {n : Nat} (hn : n < 100000) (hcells : cells + 1 ≤ R.cells) (hslots : slots + n ≤ R.slots) (hdg : decode cc pc = .ok (.newarray .int, 2))
    (kk : ∀ (q : Nat) (H1 : Heap), va_P G.1 vwCl (ws ++ [(q, .inl (G.2 0, n, .inl (nA (fun _ => 0))))]) H1 → va_D A (ws ++ [(q, .inl (G.2 0, n, .inl (nA (fun _ => 0))))]) → va_S A H0 H1 locs → W p l e R s m args below meth c H1 locs (cells + 1) (slots + n) Q (F0 m (pc + 2) ls (.ref q :: rest))) : W p l e R s m args below meth c H locs cells slots Q (F0 m pc ls (.int (nI n) :: rest)) := by
  refine va_newa (atype := .int) hx hb harr (ty := .int) rfl hK hP hD hS hA (a0 := (n, .inl (nA (fun _ => 0)))) (N' := n) (fun cA => vcell_0 cA n) (nI_pos (by omega)) (nI_clamp (by omega)) (show n * 4 ≤ 536870912 by omega) hcells hslots hdg (fun q cA H1 k1 p1 d1 s1 => ?_)
  have e1 : s.vm.findClass ("[" ++ (FieldType.int).toString) = some cA := (k1.2 3 (cA, .int) rfl).2
  have e2 : s.vm.findClass ("[" ++ (FieldType.int).toString) = some (G.2 0) := (hK.2 0 (G.2 0, .int) rfl).2
  have e3 : cA = G.2 0 := Option.some.inj (e1.symm.trans e2)
  subst e3
  exact kk q H1 p1 d1 s1
theorem nr_newc (hx : p.tables.exec = Jvm.exec) (hb : c.code = cc) (harr : (Cond.arrayClass .char).before args s = true) {G : gG} {ws : va_W} {A : Nat → Prop} {H0 : Heap} (hK : va_K G.1 vwCl (tyL G.2) s) (hP : va_P G.1 vwCl ws H) (hD : va_D A ws) (hS : va_S A H0 H locs) (hA : ∀ q, H0.size ≤ q → A q) {n : Nat} (hn : n < 100000) (hcells : cells + 1 ≤ R.cells) (hslots : slots + n ≤ R.slots) (hdg : decode cc pc = .ok (.newarray .char, 2))
    (kk : ∀ (q : Nat) (H1 : Heap), va_P G.1 vwCl (ws ++ [(q, .inl (G.2 1, n, .inl (nA (fun _ => 0))))]) H1 → va_D A (ws ++ [(q, .inl (G.2 1, n, .inl (nA (fun _ => 0))))]) → va_S A H0 H1 locs → W p l e R s m args below meth c H1 locs (cells + 1) (slots + n) Q (F0 m (pc + 2) ls (.ref q :: rest))) : W p l e R s m args below meth c H locs cells slots Q (F0 m pc ls (.int (nI n) :: rest)) := by
  refine va_newa (atype := .char) hx hb harr (ty := .char) rfl hK hP hD hS hA (a0 := (n, .inl (nA (fun _ => 0)))) (N' := n) (fun cA => vcell_0 cA n) (nI_pos (by omega)) (nI_clamp (by omega)) (show n * 2 ≤ 536870912 by omega) hcells hslots hdg (fun q cA H1 k1 p1 d1 s1 => ?_)
  have e1 : s.vm.findClass ("[" ++ (FieldType.char).toString) = some cA := (k1.2 3 (cA, .char) rfl).2
  have e2 : s.vm.findClass ("[" ++ (FieldType.char).toString) = some (G.2 1) := (hK.2 1 (G.2 1, .char) rfl).2
  have e3 : cA = G.2 1 := Option.some.inj (e1.symm.trans e2)
  subst e3
  exact kk q H1 p1 d1 s1
theorem nr_newq (hx : p.tables.exec = Jvm.exec) (hb : c.code = cc) {own : String} {index : Nat} (hown : s.vm.findClass own = some m.cls) (hclink : (Cond.classLink own index RX1).before args s = true) (hover : va_AO RX1 s) {G : gG} {ws : va_W} {A : Nat → Prop} {H0 : Heap} (hK : va_K G.1 vwCl (tyL G.2) s) (hP : va_P G.1 vwCl ws H) (hD : va_D A ws) (hS : va_S A H0 H locs) (hA : ∀ q, H0.size ≤ q → A q) {n : Nat} (hn : n < 100000) (hcells : cells + 1 ≤ R.cells) (hslots : slots + n ≤ R.slots) (hdg : decode cc pc = .ok (.anewarray index, 3))
    (kk : ∀ (q : Nat) (H1 : Heap), va_P G.1 vwCl (ws ++ [(q, .inl (G.2 2, n, .inr (.inr (.inr (.inr (fun _ => none))))))]) H1 → va_D A (ws ++ [(q, .inl (G.2 2, n, .inr (.inr (.inr (.inr (fun _ => none))))))]) → va_S A H0 H1 locs → W p l e R s m args below meth c H1 locs (cells + 1) (slots + n) Q (F0 m (pc + 3) ls (.ref q :: rest))) : W p l e R s m args below meth c H locs cells slots Q (F0 m pc ls (.int (nI n) :: rest)) := by
  refine va_newq hx hb hown hclink hover hK hP hD hS hA (N' := n) (nI_pos (by omega)) (nI_clamp (by omega)) (by omega) hcells hslots hdg (fun q cA H1 k1 p1 d1 s1 => ?_)
  obtain ⟨kA, comp, -, -, -, e1⟩ := (k1.2 3 (cA, .object RX1) rfl).2
  obtain ⟨kA', comp', -, -, -, e2⟩ := (hK.2 2 (G.2 2, .object RX1) rfl).2
  have e3 : cA = G.2 2 := Option.some.inj (e1.symm.trans e2)
  subst e3
  exact kk q H1 p1 d1 s1
variable {y : MethodName} {bytes : ByteArray} {maxL nL n index mc ms : Nat} {wsy : List Cond} {rm : Room} {Ts : List Cond} {own C : String} {b : Addr} {As st : List Value} {G : gG}
theorem wr_preS {wl : va_W} {av : List Value} {A : Nat → Prop} (hK : va_K G.1 vwCl (tyL G.2) s) (hP : va_P G.1 vwCl wl H) (hD : va_D A wl) : PreS s H (WR G wl H.size av) av := ⟨fun a U g mk z => ⟨z.1, z.2.1, z.2.2.1, va_K.moved (u := U) (U := U.calling g mk a) (Vm.Alike.refl U.vm) z.2.2.2.1, z.2.2.2.2⟩, fun U hU hW => ⟨rfl, by rw [hU], by rw [hU]; exact hP, va_K.moved hW.alike hK, hD.weaken (fun _ _ _ _ => trivial)⟩⟩
theorem wr_preSc {wl : va_W} {av : List Value} {A : Nat → Prop} (hK : va_K G.1 vwCl (tyL G.2) s) (hP : va_P G.1 vwCl wl H) (hD : va_D A wl) (hN : NC s) : PreS s H (WRc G wl H.size av) av := ⟨fun a U g mk z => ⟨z.1, z.2.1, z.2.2.1, va_K.moved (u := U) (U := U.calling g mk a) (Vm.Alike.refl U.vm) z.2.2.2.1, z.2.2.2.2.1, NC.same rfl z.2.2.2.2.2⟩, fun U hU hW => ⟨rfl, by rw [hU], by rw [hU]; exact hP, va_K.moved hW.alike hK, hD.weaken (fun _ _ _ _ => trivial), hN.warm hW⟩⟩
theorem wcJ {S : Type} {post : S → Prop} {ws wc wr : va_W} {w1 wn : S → va_W} {A0 : Nat → Prop} {H0 : Heap} (hr : va_Run p l e R s m args below meth c H locs cells slots mc ms (F0 m pc ls st) rest (va_Qv post (WB G (va_A wc H.size) w1) (va_A wc H.size) (Value.ref b :: As).toArray) (va_A wc H.size)) (hP : va_P G.1 vwCl ws H) (hD : va_D A0 ws) (hS : va_S A0 H0 H locs) (hA : ∀ q, H0.size ≤ q → A0 q)
    (isC isR js : List Nat) (hC : isC.map (fun i => ws[i]?) = wc.map some) (hnC : va_nd isC = true) (hR : isR.map (fun i => ws[i]?) = wr.map some) (hnR : va_nd isR = true) (hdis : ∀ i ∈ isR, i ∉ isC) (hnd : va_nd js = true) (hwn : ∀ u, js.map (fun i => (wr ++ w1 u)[i]?) = (wn u).map some)
    (kk : ∀ (u : S) (H1 : Heap) (locs1 : List Loc), post u → va_P G.1 vwCl (wn u) H1 → va_D A0 (wn u) → va_S A0 H0 H1 locs1 → W p l e R s m args below meth c H1 locs1 (cells + mc) (slots + ms) Q (F0 m (pc + 3) ls rest)) : W p l e R s m args below meth c H locs cells slots Q (F0 m pc ls st) := by
  have hF := va_free hD hS hA isC hC
  refine va_callv hr hS (fun q _ h => hF q h) hF (fun u t H1 locs1 ht hvm hp hB hz hk hS1 => ?_)
  obtain ⟨g1, g2⟩ := wjoin hP hD isC isR js hC hR hnR hdis hnd hwn hF hB ht hk
  exact kk u H1 locs1 hp g1 g2 hS1
/-- a constructor's call -/
theorem wcI {S : Type} {post : S → Prop} {ws wc wr : va_W} {w1 wn : S → va_W} {A0 : Nat → Prop} {H0 : Heap} (S0 : CallFix p m c cc nL s args Ts own) (hM : Met l y wsy rm (WR G wc H.size (.ref b :: As)) (va_Qv post (WB G (va_A wc H.size) w1) (va_A wc H.size)) mc ms (va_A wc H.size)) (cw : CallB R s args own index y bytes maxL none wsy rm mc ms n ∧ y.name = "<init>" ∧ (Cond.instanceMethod y).before args s = true) (hK : va_K G.1 vwCl (tyL G.2) s) (hP : va_P G.1 vwCl ws H) (hD : va_D A0 ws) (hS : va_S A0 H0 H locs) (hA : ∀ q, H0.size ≤ q → A0 q)
    (isC isR js : List Nat) (hC : isC.map (fun i => ws[i]?) = wc.map some) (hnC : va_nd isC = true) (hR : isR.map (fun i => ws[i]?) = wr.map some) (hnR : va_nd isR = true) (hdis : ∀ i ∈ isR, i ∉ isC) (hnd : va_nd js = true) (hwn : ∀ u, js.map (fun i => (wr ++ w1 u)[i]?) = (wn u).map some)
    (hn : As.length = n) (hsize : ls.size = nL) (hst : st = As.reverse ++ .ref b :: rest) (hW : (rest.map fun v => v.category).sum ≤ 8) (hdg : decode cc pc = .ok (.invokespecial index, 3)) (hf : cells + mc ≤ R.cells ∧ slots + ms ≤ R.slots)
    (kk : ∀ (u : S) (H1 : Heap) (locs1 : List Loc), post u → va_P G.1 vwCl (wn u) H1 → va_D A0 (wn u) → va_S A0 H0 H1 locs1 → W p l e R s m args below meth c H1 locs1 (cells + mc) (slots + ms) Q (F0 m (pc + 3) ls rest)) : W p l e R s m args below meth c H locs cells slots Q (F0 m pc ls st) :=
  wcJ (va_runI S0 hM cw (wr_preS hK (hP.sub isC (fm_of hC)) (hD.sub isC hnC hC)) rfl hn hsize hst (lv_room hW) hdg hf) hP hD hS hA isC isR js hC hnC hR hnR hdis hnd hwn kk
/-- .. of one that makes arrays of rows -/
theorem wcIc {S : Type} {post : S → Prop} {ws wc wr : va_W} {w1 wn : S → va_W} {A0 : Nat → Prop} {H0 : Heap} (S0 : CallFix p m c cc nL s args Ts own) (hM : Met l y wsy rm (WRc G wc H.size (.ref b :: As)) (va_Qv post (WB G (va_A wc H.size) w1) (va_A wc H.size)) mc ms (va_A wc H.size)) (cw : CallB R s args own index y bytes maxL none wsy rm mc ms n ∧ y.name = "<init>" ∧ (Cond.instanceMethod y).before args s = true) (hK : va_K G.1 vwCl (tyL G.2) s) (hN : NC s) (hP : va_P G.1 vwCl ws H) (hD : va_D A0 ws) (hS : va_S A0 H0 H locs) (hA : ∀ q, H0.size ≤ q → A0 q)
    (isC isR js : List Nat) (hC : isC.map (fun i => ws[i]?) = wc.map some) (hnC : va_nd isC = true) (hR : isR.map (fun i => ws[i]?) = wr.map some) (hnR : va_nd isR = true) (hdis : ∀ i ∈ isR, i ∉ isC) (hnd : va_nd js = true) (hwn : ∀ u, js.map (fun i => (wr ++ w1 u)[i]?) = (wn u).map some)
    (hn : As.length = n) (hsize : ls.size = nL) (hst : st = As.reverse ++ .ref b :: rest) (hW : (rest.map fun v => v.category).sum ≤ 8) (hdg : decode cc pc = .ok (.invokespecial index, 3)) (hf : cells + mc ≤ R.cells ∧ slots + ms ≤ R.slots)
    (kk : ∀ (u : S) (H1 : Heap) (locs1 : List Loc), post u → va_P G.1 vwCl (wn u) H1 → va_D A0 (wn u) → va_S A0 H0 H1 locs1 → W p l e R s m args below meth c H1 locs1 (cells + mc) (slots + ms) Q (F0 m (pc + 3) ls rest)) : W p l e R s m args below meth c H locs cells slots Q (F0 m pc ls st) :=
  wcJ (va_runI S0 hM cw (wr_preSc hK (hP.sub isC (fm_of hC)) (hD.sub isC hnC hC) hN) rfl hn hsize hst (lv_room hW) hdg hf) hP hD hS hA isC isR js hC hnC hR hnR hdis hnd hwn kk
/-- .. of a nest mate's private one -/
theorem wcIn {S : Type} {host : String} {post : S → Prop} {ws wc wr : va_W} {w1 wn : S → va_W} {A0 : Nat → Prop} {H0 : Heap} (S0 : CallFix p m c cc nL s args Ts own) (hM : Met l y wsy rm (WR G wc H.size (.ref b :: As)) (va_Qv post (WB G (va_A wc H.size) w1) (va_A wc H.size)) mc ms (va_A wc H.size)) (cw : va_CN R s args own index y host bytes maxL none wsy rm mc ms n ∧ y.name = "<init>" ∧ (Cond.instanceMethod y).before args s = true) (hK : va_K G.1 vwCl (tyL G.2) s) (hP : va_P G.1 vwCl ws H) (hD : va_D A0 ws) (hS : va_S A0 H0 H locs) (hA : ∀ q, H0.size ≤ q → A0 q)
    (isC isR js : List Nat) (hC : isC.map (fun i => ws[i]?) = wc.map some) (hnC : va_nd isC = true) (hR : isR.map (fun i => ws[i]?) = wr.map some) (hnR : va_nd isR = true) (hdis : ∀ i ∈ isR, i ∉ isC) (hnd : va_nd js = true) (hwn : ∀ u, js.map (fun i => (wr ++ w1 u)[i]?) = (wn u).map some)
    (hn : As.length = n) (hsize : ls.size = nL) (hst : st = As.reverse ++ .ref b :: rest) (hW : (rest.map fun v => v.category).sum ≤ 8) (hdg : decode cc pc = .ok (.invokespecial index, 3)) (hf : cells + mc ≤ R.cells ∧ slots + ms ≤ R.slots)
    (kk : ∀ (u : S) (H1 : Heap) (locs1 : List Loc), post u → va_P G.1 vwCl (wn u) H1 → va_D A0 (wn u) → va_S A0 H0 H1 locs1 → W p l e R s m args below meth c H1 locs1 (cells + mc) (slots + ms) Q (F0 m (pc + 3) ls rest)) : W p l e R s m args below meth c H locs cells slots Q (F0 m pc ls st) :=
  wcJ (va_runIN S0 hM cw (wr_preS hK (hP.sub isC (fm_of hC)) (hD.sub isC hnC hC)) rfl hn hsize hst (lv_room hW) hdg hf) hP hD hS hA isC isR js hC hnC hR hnR hdis hnd hwn kk
end RWC
/-! a new state -/
def iM : Nat → Nat := fun j => if j < 96 then (if j % 4 = j / 4 % 4 then 1 else 0) else if j < 120 then 7 else if j < 148 then (if 120 ≤ j then 1 else 0) else if j = 198 then 5 else 0
theorem dia1 {i j : Nat} (h : j = 4 * i + i % 4) : j / 4 = i ∧ j % 4 = i % 4 := by constructor <;> omega
theorem dia2 {i j : Nat} (h : j % 4 = j / 4 % 4) (h2 : j / 4 = i) : j = 4 * i + i % 4 := by rw [h2] at h; omega
def iF (i : Nat) : Nat → Nat := fun j => if j < 4 * i ∧ j < 96 then (if j % 4 = j / 4 % 4 then 1 else 0) else if 96 ≤ j ∧ j < 96 + i then 7 else 0
theorem iF_0 : (fun _ => 0) = iF 0 := by funext j; unfold iF; rw [if_neg (by omega), if_neg (by omega)]
theorem iF_s {i : Nat} (hi : i < 24) : va_up (va_up (iF i) (0 + 4 * i + i % 4) 1) (96 + i) 7 = iF (i + 1) := by
  funext j; unfold va_up iF
  by_cases h1 : j = 96 + i
  · subst h1; rw [if_pos rfl, if_neg (by omega), if_pos (by omega)]
  · rw [if_neg h1]
    by_cases h2 : j = 0 + 4 * i + i % 4
    · have e := dia1 (i := i) (j := j) (by omega)
      rw [if_pos h2, if_pos (by omega), if_pos (by rw [e.1, e.2])]
    · rw [if_neg h2]
      by_cases h3 : j < 4 * i ∧ j < 96
      · rw [if_pos h3, if_pos (show j < 4 * (i + 1) ∧ j < 96 by omega)]
      · rw [if_neg h3]
        by_cases h4 : 96 ≤ j ∧ j < 96 + i
        · rw [if_pos h4, if_neg (by omega), if_pos (by omega)]
        · rw [if_neg h4]
          by_cases h5 : j < 4 * (i + 1) ∧ j < 96
          · rw [if_pos h5, if_neg (fun q => h2 (by have := dia2 q (show j / 4 = i by omega); omega))]
          · rw [if_neg h5, if_neg (by omega)]
def iG (i : Nat) : Nat → Nat := fun j => if 120 ≤ j ∧ j < 120 + i then 1 else iF 24 j
theorem iG_0 : iF 24 = iG 0 := by funext j; unfold iG; rw [if_neg (by omega)]
theorem iG_s (i : Nat) : va_up (iG i) (120 + i) 1 = iG (i + 1) := by
  funext j; unfold va_up iG
  by_cases h1 : j = 120 + i
  · subst h1; rw [if_pos rfl, if_pos (by omega)]
  · rw [if_neg h1]
    by_cases h2 : 120 ≤ j ∧ j < 120 + i
    · rw [if_pos h2, if_pos (by omega)]
    · rw [if_neg h2, if_neg (by omega)]
theorem iG_e : va_up (iG 28) 198 5 = iM := by
  funext j; unfold va_up iG iF iM
  by_cases h1 : j = 198
  · subst h1; rfl
  · rw [if_neg h1]
    by_cases h2 : j < 96
    · rw [if_neg (by omega), if_pos (by omega), if_pos h2]
    · rw [if_neg h2]
      by_cases h3 : j < 120
      · rw [if_pos h3, if_neg (by omega), if_neg (by omega), if_pos (by omega)]
      · rw [if_neg h3]
        by_cases h4 : j < 148
        · rw [if_pos h4, if_pos (by omega), if_pos (by omega)]
        · rw [if_neg h4, if_neg (by omega), if_neg (by omega), if_neg (by omega), if_neg h1]
theorem iM_ok : ok iM := by
  refine ⟨fun i hi => ?_, fun i hi => ?_, fun i hi => ?_, fun i hi => ?_, by decide, by decide, by decide⟩ <;> (unfold iM; (repeat' split) <;> omega)
def iA (i : Nat) : Nat → Nat := fun j => if j < 4 * i ∧ j % 4 = j / 4 % 4 then 1 else 0
theorem iA_0 : (fun _ => 0) = iA 0 := by funext j; unfold iA; rw [if_neg (by omega)]
theorem iA_s (i : Nat) : va_up (iA i) (i * 4 + i % 4) 1 = iA (i + 1) := by
  funext j; unfold va_up iA
  by_cases h1 : j = i * 4 + i % 4
  · have e := dia1 (i := i) (j := j) (by omega)
    rw [if_pos h1, if_pos ⟨by omega, by rw [e.1, e.2]⟩]
  · rw [if_neg h1]
    by_cases h2 : j < 4 * i ∧ j % 4 = j / 4 % 4
    · rw [if_pos h2, if_pos ⟨by omega, h2.2⟩]
    · rw [if_neg h2, if_neg (fun q => by
        rcases Nat.lt_or_ge j (4 * i) with z | z
        · exact h2 ⟨z, q.2⟩
        · exact h1 (by have := dia2 q.2 (show j / 4 = i by omega); omega))]
theorem iA_e : iA 24 = cut 96 0 iM := by
  funext j; unfold iA cut
  by_cases h1 : j < 96
  · rw [if_pos h1, Nat.zero_add]; unfold iM; rw [if_pos h1]
    by_cases h2 : j % 4 = j / 4 % 4
    · rw [if_pos h2, if_pos ⟨by omega, h2⟩]
    · rw [if_neg h2, if_neg (fun q => h2 q.2)]
  · rw [if_neg h1, if_neg (fun q => h1 (by have := q.1; omega))]
def iC (v i : Nat) : Nat → Nat := fun j => if j < i then v else 0
theorem iC_0 (v : Nat) : (fun _ => 0) = iC v 0 := by funext j; unfold iC; rw [if_neg (by omega)]
theorem iC_s (v i : Nat) : va_up (iC v i) i v = iC v (i + 1) := by
  funext j; unfold va_up iC
  by_cases h1 : j = i
  · rw [if_pos h1, if_pos (by omega)]
  · rw [if_neg h1]
    by_cases h2 : j < i
    · rw [if_pos h2, if_pos (by omega)]
    · rw [if_neg h2, if_neg (by omega)]
theorem iC_o : iC 7 24 = cut 24 96 iM := by
  funext j; unfold iC cut
  by_cases h1 : j < 24
  · rw [if_pos h1, if_pos h1]; unfold iM; rw [if_neg (by omega), if_pos (by omega)]
  · rw [if_neg h1, if_neg h1]
theorem iC_w : iC 1 28 = cut 28 120 iM := by
  funext j; unfold iC cut
  by_cases h1 : j < 28
  · rw [if_pos h1, if_pos h1]; unfold iM; rw [if_neg (by omega), if_neg (by omega), if_pos (by omega), if_pos (by omega)]
  · rw [if_neg h1, if_neg h1]
theorem iC_g : (fun _ => 0) = cut 49 148 iM := by
  funext j; unfold cut
  by_cases h1 : j < 49
  · rw [if_pos h1]; unfold iM; rw [if_neg (by omega), if_neg (by omega), if_neg (by omega), if_neg (by omega)]
  · rw [if_neg h1]
theorem iC_s2 : va_up (va_up (fun _ => 0) 0 0) 1 5 = cut 2 197 iM := by
  funext j; unfold va_up cut
  by_cases h1 : j = 1
  · subst h1; rfl
  · by_cases h2 : j = 0
    · subst h2; rfl
    · rw [if_neg h1, if_neg h2, if_neg (by omega)]
def wzF : Nat → Nat → Nat
  | 0 => fun _ => 0
  | n + 1 => wpF (wzF n) iM n 24
theorem wzF_at : ∀ (n j : Nat), wzF n j = if j % 7 < n ∧ j / 7 < 24 then wr iM (j % 7) (j / 7) else 0
  | 0, j => by rw [if_neg (by omega)]; rfl
  | n + 1, j => by
    show wpF (wzF n) iM n 24 j = _
    unfold wpF
    by_cases h1 : j % 7 = n ∧ j / 7 < 24
    · rw [if_pos h1, if_pos (by omega), h1.1]
    · rw [if_neg h1, wzF_at n j]
      by_cases h2 : j % 7 < n ∧ j / 7 < 24
      · rw [if_pos h2, if_pos (by omega)]
      · rw [if_neg h2, if_neg (by omega)]
theorem wzF_e : wzF 7 = vv iM := by
  funext j; rw [wzF_at]; unfold vv
  by_cases h1 : j < 168
  · rw [if_pos h1, if_pos (by omega)]
  · rw [if_neg h1, if_neg (by omega)]
/-- the addresses of a row: its object's, then those of its arrays -/
def adr (q : Nat) (u : Nat → Nat) : Nat → Nat := fun k => match k with
  | 0 => q
  | k + 1 => u (k + 1)
def ad4 (a b c d : Nat → Nat) : Nat → Nat → Nat := fun j => match j with
  | 0 => a
  | 1 => b
  | 2 => c
  | _ => d
theorem q4_i (a b c d : Nat → Nat) : va_up (va_up (va_up (va_up (fun _ => none) 0 (some (a 0))) 1 (some (b 0))) 2 (some (c 0))) 3 (some (d 0)) = q4 (ad4 a b c d) := by
  funext j; unfold va_up q4
  by_cases h3 : j = 3
  · subst h3; rfl
  · rw [if_neg h3]
    by_cases h2 : j = 2
    · subst h2; rfl
    · rw [if_neg h2]
      by_cases h1 : j = 1
      · subst h1; rfl
      · rw [if_neg h1]
        by_cases h0 : j = 0
        · subst h0; rfl
        · rw [if_neg h0, if_neg (by omega)]
def ad7 (a b c d e f : Nat) : Nat → Nat := fun k => match k with
  | 1 => a
  | 2 => b
  | 3 => c
  | 4 => d
  | 5 => e
  | _ => f
