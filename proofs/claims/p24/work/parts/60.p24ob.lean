/-! static methods of the law over the object -/
abbrev q_PO (G : gG) (AA : Nat → Prop) (ob0 : Heap → Prop) (av : List Value) : Array Value → State → Prop := va_Pc av (fun U => (∀ q : Nat, U.heap.size ≤ q → AA q) ∧ ob0 U.heap ∧ va_K G.1 vwCl (tyL G.2) U ∧ NW U)
theorem obM {l : Launch} {y : MethodName} {ws ws' : List Cond} {rm : Room} {cc : ByteArray} {maxL : Nat} {ret : Option FieldType} {G : gG} {AA : Nat → Prop} {ob0 : Heap → Prop} {av : List Value} {Qc : Array Value → State → Outcome → State → Prop} {C : String} (hC : C = y.cls) (hy : plainName y.cls = true) (hw : ws = Cond.code y cc maxL ret :: ws') (hav : (lg_sl av).length ≤ maxL)
    (body : ∀ p e s m below meth c (ls : Array Slot), p.tables.exec = Jvm.exec → c.code = cc → meth.sig.returnType = ret → (∀ w ∈ ws, w.before av.toArray s = true) → s.vm.findClass C = some m.cls → meth.locks = false → c.maxLocals = maxL → (∀ q : Nat, s.heap.size ≤ q → AA q) → ob0 s.heap → va_K G.1 vwCl (tyL G.2) s → NW s → va_S AA s.heap s.heap [] → lv_has ls maxL (lv_args 0 av) →
      W p l e rm s m av.toArray below meth c s.heap [] 0 0 (MQ below Qc av.toArray s 0 0 AA) (F0 m 0 ls [])) : Met l y ws rm (q_PO G AA ob0 av) Qc 0 0 AA := by
  refine Met.ofW (cc := cc) (maxL := maxL) (ret := ret) hy hw ?_
  intro p e s m args below meth c s₁ B hml hv
  obtain ⟨rfl, hA, hO, hK, hN⟩ := hv
  have hts := atoms_spec (ws := ws) B.pre
  have hl := lv_entry av (n := maxL) hav
  rw [lg_entry_eq]
  generalize (lg_sl av ++ List.replicate (maxL - (lg_sl av).length) Slot.unset).toArray = ls at hl ⊢
  exact body p e s m below meth c ls B.exec B.bytes B.returns hts (by rw [hC]; exact findClass_of_methodNamed B.named) B.notSynchronized hml hA hO hK hN va_S.rf hl
section OBR
variable {p : Program} {l : Launch} {e : Env} {R : Room} {s : State} {m : MethodId} {args : Array Value} {below : List Frame} {meth : Method} {c : Code} {H : Heap} {locs : List Loc} {cells slots : Nat} {Q : State → Prop}
variable {cc : ByteArray} {pc : Nat} {ls : Array Slot} {rest : List Value}
variable {y : MethodName} {bytes : ByteArray} {maxL nL n index : Nat} {ret : Option FieldType} {wsy : List Cond} {rm : Room} {Ts : List Cond} {own C : String} {As st : List Value} {G : gG} {AA : Nat → Prop}
theorem obretz {S : Type} {post : Int32 → S → Prop} {ob : S → Heap → Prop} (hx : p.tables.exec = Jvm.exec) (hb : c.code = cc) (hr : meth.sig.returnType = some .boolean) (hlk : meth.locks = false) (hS : va_S AA s.heap H locs) (u : S) (hO : ob u H) (hp : post (nI 1) u) (hdg : decode cc pc = .ok (.ireturn, 1)) : W p l e R s m args below meth c H locs cells slots (MQ below (va_Qi post (fun u t => ob u t.heap) AA) args s cells slots AA) (F0 m pc ls [.int (nI 1)]) :=
  W.zret hx hb hr (by decide +kernel) (fun t ht hW => ⟨⟨_, u, rfl, hp, by subst ht; exact hO⟩, hS.F ht⟩) hS.2.2 hdg hlk
theorem obreti {S : Type} {post : Int32 → S → Prop} {ob : S → Heap → Prop} {v : Int32} (hx : p.tables.exec = Jvm.exec) (hb : c.code = cc) (hr : meth.sig.returnType = some .int) (hlk : meth.locks = false) (hS : va_S AA s.heap H locs) (u : S) (hO : ob u H) (hp : post v u) (hdg : decode cc pc = .ok (.ireturn, 1)) : W p l e R s m args below meth c H locs cells slots (MQ below (va_Qi post (fun u t => ob u t.heap) AA) args s cells slots AA) (F0 m pc ls [.int v]) :=
  W.iret hx hb hr (fun t ht hW => ⟨⟨v, u, rfl, hp, by subst ht; exact hO⟩, hS.F ht⟩) hS.2.2 hdg hlk
theorem loop_o {T : Type} {nL : Nat} {st0 : List Value} {A : Nat → Prop} {H0 : Heap} (I : T → Prop) (μ : T → Nat) (lv : T → List (Nat × Value)) (ob : T → Heap → Prop) (hs : ∀ x ls H locs, lv_has ls nL (lv x) → ob x H → va_S A H0 H locs → I x → (∀ y ls' H' locs', lv_has ls' nL (lv y) → ob y H' → va_S A H0 H' locs' → I y → μ y < μ x → W p l e R s m args below meth c H' locs' cells slots Q (F0 m pc ls' st0)) → W p l e R s m args below meth c H locs cells slots Q (F0 m pc ls st0)) (x : T) (hl : lv_has ls nL (lv x)) (hO : ob x H) (hS : va_S A H0 H locs) (hI : I x) : W p l e R s m args below meth c H locs cells slots Q (F0 m pc ls st0) := by
  have key : ∀ (n : Nat) (x : T) (ls : Array Slot) (H : Heap) (locs : List Loc), μ x < n → lv_has ls nL (lv x) → ob x H → va_S A H0 H locs → I x → W p l e R s m args below meth c H locs cells slots Q (F0 m pc ls st0) := by
    intro n
    induction n with
    | zero => intro x ls H locs h; omega
    | succ n ih => exact fun x ls H locs h h1 h2 h3 h4 => hs x ls H locs h1 h2 h3 h4 (fun y ls' H' locs' g1 g2 g3 g4 g5 => ih y ls' H' locs' (by omega) g1 g2 g3 g4)
  exact key (μ x + 1) x ls H locs (Nat.lt_succ_self _) hl hO hS hI
theorem po_pre {ob0 : Heap → Prop} (hK : va_K G.1 vwCl (tyL G.2) s) (hNW : NW s) (hAA : ∀ q : Nat, s.heap.size ≤ q → AA q) (hO : ob0 H) (hS : va_S AA s.heap H locs) : PreS s H (q_PO G AA ob0 As) As :=
  ⟨fun a U g mk z => ⟨z.1, z.2.1, z.2.2.1, va_K.moved (u := U) (U := U.calling g mk a) (Vm.Alike.refl U.vm) z.2.2.2.1, NW.same rfl z.2.2.2.2⟩, fun U hU hW => ⟨rfl, by rw [hU]; exact fun q h => hAA q (Nat.le_trans hS.1 h), by rw [hU]; exact hO, va_K.moved hW.alike hK, hNW.warm hW⟩⟩
theorem wcO {S : Type} {post : Int32 → S → Prop} {ob0 : Heap → Prop} {ob : S → Heap → Prop} (S0 : CallFix p m c cc nL s args Ts own) (hM : Met l y wsy rm (q_PO G AA ob0 As) (va_Qi post (fun u t => ob u t.heap) AA) 0 0 AA) (cw : CallB R s args own index y bytes maxL ret wsy rm 0 0 n ∧ (Cond.static y).before args s = true) (hK : va_K G.1 vwCl (tyL G.2) s) (hNW : NW s) (hAA : ∀ q : Nat, s.heap.size ≤ q → AA q) (hO : ob0 H) (hS : va_S AA s.heap H locs)
    (hn : As.length = n) (hsize : ls.size = nL) (hst : st = As.reverse ++ rest) (hW : (rest.map fun v => v.category).sum ≤ 8) (hdg : decode cc pc = .ok (.invokestatic index, 3)) (hf : cells ≤ R.cells ∧ slots ≤ R.slots)
    (kk : ∀ (r : Int32) (u : S) (H1 : Heap) (locs1 : List Loc), post r u → ob u H1 → va_S AA s.heap H1 locs1 → W p l e R s m args below meth c H1 locs1 cells slots Q (F0 m (pc + 3) ls (.int r :: rest))) : W p l e R s m args below meth c H locs cells slots Q (F0 m pc ls st) := by
  refine va_calli (va_runS S0 hM cw (po_pre hK hNW hAA hO hS) rfl hn hsize hst (lv_room hW) hdg hf) hS (fun q _ h => h) (fun q h => h) (fun r u t H1 locs1 ht hvm hp hB hz hk hS1 => ?_)
  refine kk r u H1 locs1 hp ?_ hS1
  subst ht; exact hB
theorem rcA {b L : Nat} {xs : Nat → Int32} (S0 : CallFix p m c cc nL s args Ts own) (hM : Met l y wsy rm (va_Pc As (fun U => va_X b L xs U U.heap ∧ b < U.heap.size)) QcAny 0 0 noF) (cw : CallB R s args own index y bytes maxL ret wsy rm 0 0 n ∧ (Cond.static y).before args s = true) (hX : va_X b L xs s H ∧ s.heap.size ≤ H.size) (hbl : b < s.heap.size)
    (hn : As.length = n) (hsize : ls.size = nL) (hst : st = As.reverse ++ rest) (hW : (rest.map fun v => v.category).sum ≤ 8) (hdg : decode cc pc = .ok (.invokestatic index, 3)) (hf : cells ≤ R.cells ∧ slots ≤ R.slots)
    (kk : ∀ r : Int32, W p l e R s m args below meth c H locs cells slots Q (F0 m (pc + 3) ls (.int r :: rest))) : W p l e R s m args below meth c H locs cells slots Q (F0 m pc ls st) := by
  intro T hT X
  have hp : PreS s H (va_Pc As (fun U => va_X b L xs U U.heap ∧ b < U.heap.size)) As := ⟨fun a U g mk z => ⟨z.1, va_X.moved (u := U) (U := U.calling g mk a) (Vm.Alike.refl U.vm) z.2.1, z.2.2⟩, fun U hU hW => ⟨rfl, by rw [hU]; exact va_X.moved hW.alike hX.1, by rw [hU]; exact Nat.lt_of_lt_of_le hbl hX.2⟩⟩
  obtain ⟨v, st₀, t, T', L', h0, X', hL, e1, -, ⟨r, hv, hh⟩, st'⟩ := (va_runS S0 hM cw hp rfl hn hsize hst (lv_room hW) hdg hf) T hT X
  cases hv
  obtain ⟨t2, a1, b1⟩ := kk r T' (by rw [e1, hh, h0]) (Stand.forget X' (fun q h => (hL q h).elim))
  exact ⟨t2, st' t2 a1, b1⟩
theorem sX {b L : Nat} {xs : Nat → Int32} (hX : va_X b L xs s s.heap) (hbl : b < s.heap.size) (hbA : ¬ AA b) (hS : va_S AA s.heap H locs) : va_X b L xs s H ∧ s.heap.size ≤ H.size := by
  obtain ⟨scr, h1, h2, h3⟩ := hX
  exact ⟨⟨scr, (hS.2.1 b hbl hbA).trans h1, h2, h3⟩, hS.1⟩
end OBR
