/-! rows of my own: numbers as naturals behind nI; worlds with one table of array classes; readers, writers, loops, joins -/
abbrev gG : Type := va_G × (Nat → ClassId)
def tyL (c : Nat → ClassId) : List (ClassId × FieldType) := [(c 0, .int), (c 1, .char), (c 2, .object RX1)]
def nA (f : Nat → Nat) : Nat → Int32 := fun j => nI (f j)
def bb (P : Prop) [Decidable P] : Nat := if P then 1 else 0
theorem bb_t {P : Prop} [Decidable P] (h : P) : bb P = 1 := if_pos h
theorem bb_f {P : Prop} [Decidable P] (h : ¬ P) : bb P = 0 := if_neg h
theorem bb_lt {P : Prop} [Decidable P] : bb P < 2 := by unfold bb; split <;> omega
theorem bb_e1 {P : Prop} [Decidable P] : bb P = 1 ↔ P := by unfold bb; split <;> simp [*]
theorem bb_e0 {P : Prop} [Decidable P] : bb P = 0 ↔ ¬ P := by unfold bb; split <;> simp [*]
theorem bb_c {P Q : Prop} [Decidable P] [Decidable Q] (h : P ↔ Q) : bb P = bb Q := by unfold bb; by_cases hp : P; rw [if_pos hp, if_pos (h.mp hp)]; rw [if_neg hp, if_neg (fun q => hp (h.mpr q))]
abbrev RD (G : gG) (ws : va_W) (av : List Value) : Array Value → State → Prop := va_Pc av (fun U => va_P G.1 vwCl ws U.heap ∧ va_K G.1 vwCl (tyL G.2) U)
abbrev WR (G : gG) (ws : va_W) (sz : Nat) (av : List Value) : Array Value → State → Prop := va_Pc av (fun U => U.heap.size = sz ∧ va_P G.1 vwCl ws U.heap ∧ va_K G.1 vwCl (tyL G.2) U ∧ va_D (fun _ => True) ws)
abbrev RS (av : List Value) : Array Value → State → Prop := fun v _ => v = av.toArray
def WB {S : Type} (G : gG) (A : Nat → Prop) (wn : S → va_W) : S → State → Prop := fun u t => va_P G.1 vwCl (wn u) t.heap ∧ va_K G.1 vwCl (tyL G.2) t ∧ va_D A (wn u)
abbrev noF : Addr → Prop := fun _ => False
/-- a static method that reads no heap, its head -/
theorem stM {l : Launch} {y : MethodName} {ws ws' : List Cond} {rm : Room} {cc : ByteArray} {maxL : Nat} {ret : Option FieldType} {av : List Value} {r : Int32} {C : String} (hC : C = y.cls) (hy : plainName y.cls = true) (hw : ws = Cond.code y cc maxL ret :: ws') (hav : (lg_sl av).length ≤ maxL)
    (body : ∀ p e s m below meth c (ls : Array Slot), p.tables.exec = Jvm.exec → c.code = cc → meth.sig.returnType = ret → (∀ w ∈ ws, w.before av.toArray s = true) → s.vm.findClass C = some m.cls → meth.locks = false → c.maxLocals = maxL → lv_has ls maxL (lv_args 0 av) →
      W p l e rm s m av.toArray below meth c s.heap [] 0 0 (MQ below (QcRead r) av.toArray s 0 0 noF) (F0 m 0 ls [])) : Met l y ws rm (RS av) (QcRead r) 0 0 noF := by
  refine Met.ofW (cc := cc) (maxL := maxL) (ret := ret) hy hw ?_
  intro p e s m args below meth c s₁ B hml hv
  obtain rfl := hv
  have hts := atoms_spec (ws := ws) B.pre
  have hl := lv_entry av (n := maxL) hav
  rw [lg_entry_eq]
  generalize (lg_sl av ++ List.replicate (maxL - (lg_sl av).length) Slot.unset).toArray = ls at hl ⊢
  exact body p e s m below meth c ls B.exec B.bytes B.returns hts (by rw [hC]; exact findClass_of_methodNamed B.named) B.notSynchronized hml hl
/-- a reader's head -/
theorem rdM {l : Launch} {y : MethodName} {ws ws' : List Cond} {rm : Room} {cc : ByteArray} {maxL : Nat} {ret : Option FieldType} {G : gG} {wl : va_W} {av : List Value} {r : Int32} {C : String} (hC : C = y.cls) (hy : plainName y.cls = true) (hw : ws = Cond.code y cc maxL ret :: ws') (hav : (lg_sl av).length ≤ maxL)
    (body : ∀ p e s m below meth c (ls : Array Slot), p.tables.exec = Jvm.exec → c.code = cc → meth.sig.returnType = ret → (∀ w ∈ ws, w.before av.toArray s = true) → s.vm.findClass C = some m.cls → meth.locks = false → c.maxLocals = maxL → va_P G.1 vwCl wl s.heap → va_K G.1 vwCl (tyL G.2) s → lv_has ls maxL (lv_args 0 av) →
      W p l e rm s m av.toArray below meth c s.heap [] 0 0 (MQ below (QcRead r) av.toArray s 0 0 noF) (F0 m 0 ls [])) : Met l y ws rm (RD G wl av) (QcRead r) 0 0 noF := by
  refine Met.ofW (cc := cc) (maxL := maxL) (ret := ret) hy hw ?_
  intro p e s m args below meth c s₁ B hml hv
  obtain ⟨rfl, hP, hK⟩ := hv
  have hts := atoms_spec (ws := ws) B.pre
  have hl := lv_entry av (n := maxL) hav
  rw [lg_entry_eq]
  generalize (lg_sl av ++ List.replicate (maxL - (lg_sl av).length) Slot.unset).toArray = ls at hl ⊢
  exact body p e s m below meth c ls B.exec B.bytes B.returns hts (by rw [hC]; exact findClass_of_methodNamed B.named) B.notSynchronized hml hP hK hl
/-- a writer's head: Qf is its end's form over the cells A that it may write -/
theorem wrM {l : Launch} {y : MethodName} {ws ws' : List Cond} {rm : Room} {cc : ByteArray} {maxL : Nat} {ret : Option FieldType} {G : gG} {wl : va_W} {sz : Nat} {av : List Value} {mc ms : Nat} {C : String} {Qf : (Nat → Prop) → Array Value → State → Outcome → State → Prop} (hC : C = y.cls) (hy : plainName y.cls = true) (hw : ws = Cond.code y cc maxL ret :: ws') (hav : (lg_sl av).length ≤ maxL)
    (body : ∀ p e s m below meth c (ls : Array Slot) (A : Nat → Prop), p.tables.exec = Jvm.exec → c.code = cc → meth.sig.returnType = ret → (∀ w ∈ ws, w.before av.toArray s = true) → s.vm.findClass C = some m.cls → meth.locks = false → c.maxLocals = maxL → meth.name = y.name → va_P G.1 vwCl wl s.heap → va_K G.1 vwCl (tyL G.2) s → va_D A wl → (∀ q : Nat, s.heap.size ≤ q → A q) → va_S A s.heap s.heap [] → lv_has ls maxL (lv_args 0 av) →
      W p l e rm s m av.toArray below meth c s.heap [] 0 0 (MQ below (Qf A) av.toArray s mc ms A) (F0 m 0 ls [])) : Met l y ws rm (WR G wl sz av) (Qf (va_A wl sz)) mc ms (va_A wl sz) := by
  refine Met.ofW (cc := cc) (maxL := maxL) (ret := ret) hy hw ?_
  intro p e s m args below meth c s₁ B hml hv
  obtain ⟨rfl, hsz, hP, hK, hD0⟩ := hv
  have hts := atoms_spec (ws := ws) B.pre
  subst hsz
  have hD := hD0.self (sz := s.heap.size)
  have hA : ∀ q : Nat, s.heap.size ≤ q → va_A wl s.heap.size q := fun q h => Or.inr h
  have hl := lv_entry av (n := maxL) hav
  rw [lg_entry_eq]
  generalize (lg_sl av ++ List.replicate (maxL - (lg_sl av).length) Slot.unset).toArray = ls at hl ⊢
  exact body p e s m below meth c ls _ B.exec B.bytes B.returns hts (by rw [hC]; exact findClass_of_methodNamed B.named) B.notSynchronized hml (name_of_methodNamed B.named B.method).1 hP hK hD hA va_S.rf hl
section RWS
variable {p : Program} {l : Launch} {e : Env} {R : Room} {s : State} {m : MethodId} {args : Array Value} {below : List Frame} {meth : Method} {c : Code} {H : Heap} {locs : List Loc} {cells slots : Nat} {Q : State → Prop}
variable {cc : ByteArray} {pc : Nat} {ls : Array Slot} {rest : List Value}
-- numbers
theorem nr_const (hx : p.tables.exec = Jvm.exec) (hb : c.code = cc) {n : Int} {v : Nat} (hdg : decode cc pc = .ok (.iconst n, 1)) (hv : n = (v : Int)) (k : W p l e R s m args below meth c H locs cells slots Q (F0 m (pc + 1) ls (.int (nI v) :: rest))) : W p l e R s m args below meth c H locs cells slots Q (F0 m pc ls rest) := by
  subst hv; exact lv_iconst hx hb hdg rfl k
theorem nr_bi (hx : p.tables.exec = Jvm.exec) (hb : c.code = cc) {n : Int} {v : Nat} (hdg : decode cc pc = .ok (.bipush n, 2)) (hv : (Int8.ofInt n).toInt32 = nI v) (k : W p l e R s m args below meth c H locs cells slots Q (F0 m (pc + 2) ls (.int (nI v) :: rest))) : W p l e R s m args below meth c H locs cells slots Q (F0 m pc ls rest) := lv_bipush hx hb hdg hv k
theorem nr_si (hx : p.tables.exec = Jvm.exec) (hb : c.code = cc) {n : Int} {v : Nat} (hdg : decode cc pc = .ok (.sipush n, 3)) (hv : (Int16.ofInt n).toInt32 = nI v) (k : W p l e R s m args below meth c H locs cells slots Q (F0 m (pc + 3) ls (.int (nI v) :: rest))) : W p l e R s m args below meth c H locs cells slots Q (F0 m pc ls rest) := lv_sipush hx hb hdg hv k
theorem nr_add (hx : p.tables.exec = Jvm.exec) (hb : c.code = cc) {a b : Nat} (hdg : decode cc pc = .ok (.iadd, 1)) (k : W p l e R s m args below meth c H locs cells slots Q (F0 m (pc + 1) ls (.int (nI (a + b)) :: rest))) : W p l e R s m args below meth c H locs cells slots Q (F0 m pc ls (.int (nI b) :: .int (nI a) :: rest)) := lv_iadd hx hb hdg (by rw [nI_add]; exact k)
theorem nr_mul (hx : p.tables.exec = Jvm.exec) (hb : c.code = cc) {a b : Nat} (hdg : decode cc pc = .ok (.imul, 1)) (k : W p l e R s m args below meth c H locs cells slots Q (F0 m (pc + 1) ls (.int (nI (a * b)) :: rest))) : W p l e R s m args below meth c H locs cells slots Q (F0 m pc ls (.int (nI b) :: .int (nI a) :: rest)) := lv_imul hx hb hdg (by rw [pk_mul]; exact k)
theorem nr_sub (hx : p.tables.exec = Jvm.exec) (hb : c.code = cc) {a b : Nat} (hdg : decode cc pc = .ok (.isub, 1)) (h : b ≤ a) (k : W p l e R s m args below meth c H locs cells slots Q (F0 m (pc + 1) ls (.int (nI (a - b)) :: rest))) : W p l e R s m args below meth c H locs cells slots Q (F0 m pc ls (.int (nI b) :: .int (nI a) :: rest)) := lv_isub hx hb hdg (by rw [pk_sub h]; exact k)
theorem nr_div (hx : p.tables.exec = Jvm.exec) (hb : c.code = cc) {a b : Nat} (hdg : decode cc pc = .ok (.idiv, 1)) (ha : a < 2147483648) (h0 : 0 < b) (hb2 : b < 2147483648) (k : W p l e R s m args below meth c H locs cells slots Q (F0 m (pc + 1) ls (.int (nI (a / b)) :: rest))) : W p l e R s m args below meth c H locs cells slots Q (F0 m pc ls (.int (nI b) :: .int (nI a) :: rest)) := lv_idiv hx hb hdg (nI_ne0 h0 hb2) (by rw [pk_div ha h0 hb2]; exact k)
theorem nr_rem (hx : p.tables.exec = Jvm.exec) (hb : c.code = cc) {a b : Nat} (hdg : decode cc pc = .ok (.irem, 1)) (ha : a < 2147483648) (h0 : 0 < b) (hb2 : b < 2147483648) (k : W p l e R s m args below meth c H locs cells slots Q (F0 m (pc + 1) ls (.int (nI (a % b)) :: rest))) : W p l e R s m args below meth c H locs cells slots Q (F0 m pc ls (.int (nI b) :: .int (nI a) :: rest)) := lv_irem hx hb hdg (nI_ne0 h0 hb2) (by rw [pk_rem ha h0 hb2]; exact k)
theorem nr_inc (hx : p.tables.exec = Jvm.exec) (hb : c.code = cc) {i nL k d v : Nat} {x : Nat} {lv lv' : List (Nat × Value)} (hdg : decode cc pc = .ok (.iinc i (d : Int), 3)) (h : lv_has ls nL lv) (hk : lv[k]? = some (i, .int (nI x))) (hv : x + d = v) (hn : i < nL) (hl : (i, Value.int (nI v)) :: lv.filter (fun q => !(q.1 == i) && !(q.1 + 1 == i && q.2.category == 2)) = lv')
    (kk : ∀ ls' : Array Slot, lv_has ls' nL lv' → W p l e R s m args below meth c H locs cells slots Q (F0 m (pc + 3) ls' rest)) : W p l e R s m args below meth c H locs cells slots Q (F0 m pc ls rest) := lv_iinc hx hb hdg h hk (by rw [← hv]; exact nI_add x d) hn hl kk
-- branches over naturals
theorem nI_le0 {a : Nat} (ha : a < 2147483648) : nI a ≤ 0 ↔ a = 0 := by rw [← nI_0]; exact ⟨fun h => by have := (nI_leI ha (by decide)).mp h; omega, fun h => (nI_leI ha (by decide)).mpr (by omega)⟩
theorem nI_e0 {a : Nat} (ha : a < 2147483648) : nI a = 0 ↔ a = 0 := by rw [← nI_0]; exact nI_eq ha (by decide)
theorem nI_lt0 {a : Nat} (ha : a < 2147483648) : (0 : Int32) < nI a ↔ 0 < a := by rw [← nI_0]; exact nI_ltI (by decide) ha
theorem br_ilt (hx : p.tables.exec = Jvm.exec) (hb : c.code = cc) {a b : Nat} {off : Int} {tgt : Nat} (hdg : decode cc pc = .ok (.if_icmp .lt off, 3)) (ht : (pc : Int) + off = (tgt : Int)) (ha : a < 2147483648) (hb2 : b < 2147483648) (kt : a < b → W p l e R s m args below meth c H locs cells slots Q (F0 m tgt ls rest)) (kf : ¬ a < b → W p l e R s m args below meth c H locs cells slots Q (F0 m (pc + 3) ls rest)) : W p l e R s m args below meth c H locs cells slots Q (F0 m pc ls (.int (nI b) :: .int (nI a) :: rest)) := lv_icmp_lt hx hb hdg ht (fun h => kt ((nI_ltI ha hb2).mp h)) (fun h => kf (fun q => h ((nI_ltI ha hb2).mpr q)))
theorem br_ige (hx : p.tables.exec = Jvm.exec) (hb : c.code = cc) {a b : Nat} {off : Int} {tgt : Nat} (hdg : decode cc pc = .ok (.if_icmp .ge off, 3)) (ht : (pc : Int) + off = (tgt : Int)) (ha : a < 2147483648) (hb2 : b < 2147483648) (kt : b ≤ a → W p l e R s m args below meth c H locs cells slots Q (F0 m tgt ls rest)) (kf : ¬ b ≤ a → W p l e R s m args below meth c H locs cells slots Q (F0 m (pc + 3) ls rest)) : W p l e R s m args below meth c H locs cells slots Q (F0 m pc ls (.int (nI b) :: .int (nI a) :: rest)) := lv_icmp_ge hx hb hdg ht (fun h => kt ((nI_leI hb2 ha).mp h)) (fun h => kf (fun q => h ((nI_leI hb2 ha).mpr q)))
theorem br_igt (hx : p.tables.exec = Jvm.exec) (hb : c.code = cc) {a b : Nat} {off : Int} {tgt : Nat} (hdg : decode cc pc = .ok (.if_icmp .gt off, 3)) (ht : (pc : Int) + off = (tgt : Int)) (ha : a < 2147483648) (hb2 : b < 2147483648) (kt : b < a → W p l e R s m args below meth c H locs cells slots Q (F0 m tgt ls rest)) (kf : ¬ b < a → W p l e R s m args below meth c H locs cells slots Q (F0 m (pc + 3) ls rest)) : W p l e R s m args below meth c H locs cells slots Q (F0 m pc ls (.int (nI b) :: .int (nI a) :: rest)) := lv_icmp_gt hx hb hdg ht (fun h => kt ((nI_ltI hb2 ha).mp h)) (fun h => kf (fun q => h ((nI_ltI hb2 ha).mpr q)))
theorem br_ile (hx : p.tables.exec = Jvm.exec) (hb : c.code = cc) {a b : Nat} {off : Int} {tgt : Nat} (hdg : decode cc pc = .ok (.if_icmp .le off, 3)) (ht : (pc : Int) + off = (tgt : Int)) (ha : a < 2147483648) (hb2 : b < 2147483648) (kt : a ≤ b → W p l e R s m args below meth c H locs cells slots Q (F0 m tgt ls rest)) (kf : ¬ a ≤ b → W p l e R s m args below meth c H locs cells slots Q (F0 m (pc + 3) ls rest)) : W p l e R s m args below meth c H locs cells slots Q (F0 m pc ls (.int (nI b) :: .int (nI a) :: rest)) := lv_icmp_le hx hb hdg ht (fun h => kt ((nI_leI ha hb2).mp h)) (fun h => kf (fun q => h ((nI_leI ha hb2).mpr q)))
theorem br_ieq (hx : p.tables.exec = Jvm.exec) (hb : c.code = cc) {a b : Nat} {off : Int} {tgt : Nat} (hdg : decode cc pc = .ok (.if_icmp .eq off, 3)) (ht : (pc : Int) + off = (tgt : Int)) (ha : a < 2147483648) (hb2 : b < 2147483648) (kt : a = b → W p l e R s m args below meth c H locs cells slots Q (F0 m tgt ls rest)) (kf : ¬ a = b → W p l e R s m args below meth c H locs cells slots Q (F0 m (pc + 3) ls rest)) : W p l e R s m args below meth c H locs cells slots Q (F0 m pc ls (.int (nI b) :: .int (nI a) :: rest)) := lv_icmp_eq hx hb hdg ht (fun h => kt ((nI_eq ha hb2).mp h)) (fun h => kf (fun q => h ((nI_eq ha hb2).mpr q)))
theorem br_ine (hx : p.tables.exec = Jvm.exec) (hb : c.code = cc) {a b : Nat} {off : Int} {tgt : Nat} (hdg : decode cc pc = .ok (.if_icmp .ne off, 3)) (ht : (pc : Int) + off = (tgt : Int)) (ha : a < 2147483648) (hb2 : b < 2147483648) (kt : ¬ a = b → W p l e R s m args below meth c H locs cells slots Q (F0 m tgt ls rest)) (kf : a = b → W p l e R s m args below meth c H locs cells slots Q (F0 m (pc + 3) ls rest)) : W p l e R s m args below meth c H locs cells slots Q (F0 m pc ls (.int (nI b) :: .int (nI a) :: rest)) := lv_icmp_ne hx hb hdg ht (fun h => kt (fun q => h ((nI_eq ha hb2).mpr q))) (fun h => kf ((nI_eq ha hb2).mp h))
theorem br_eq0 (hx : p.tables.exec = Jvm.exec) (hb : c.code = cc) {a : Nat} {off : Int} {tgt : Nat} (hdg : decode cc pc = .ok (.ifCond .eq off, 3)) (ht : (pc : Int) + off = (tgt : Int)) (ha : a < 2147483648) (kt : a = 0 → W p l e R s m args below meth c H locs cells slots Q (F0 m tgt ls rest)) (kf : ¬ a = 0 → W p l e R s m args below meth c H locs cells slots Q (F0 m (pc + 3) ls rest)) : W p l e R s m args below meth c H locs cells slots Q (F0 m pc ls (.int (nI a) :: rest)) := lv_if_eq hx hb hdg ht (fun h => kt ((nI_e0 ha).mp h)) (fun h => kf (fun q => h ((nI_e0 ha).mpr q)))
theorem br_ne0 (hx : p.tables.exec = Jvm.exec) (hb : c.code = cc) {a : Nat} {off : Int} {tgt : Nat} (hdg : decode cc pc = .ok (.ifCond .ne off, 3)) (ht : (pc : Int) + off = (tgt : Int)) (ha : a < 2147483648) (kt : ¬ a = 0 → W p l e R s m args below meth c H locs cells slots Q (F0 m tgt ls rest)) (kf : a = 0 → W p l e R s m args below meth c H locs cells slots Q (F0 m (pc + 3) ls rest)) : W p l e R s m args below meth c H locs cells slots Q (F0 m pc ls (.int (nI a) :: rest)) := lv_if_ne hx hb hdg ht (fun h => kt (fun q => h ((nI_e0 ha).mpr q))) (fun h => kf ((nI_e0 ha).mp h))
theorem br_gt0 (hx : p.tables.exec = Jvm.exec) (hb : c.code = cc) {a : Nat} {off : Int} {tgt : Nat} (hdg : decode cc pc = .ok (.ifCond .gt off, 3)) (ht : (pc : Int) + off = (tgt : Int)) (ha : a < 2147483648) (kt : 0 < a → W p l e R s m args below meth c H locs cells slots Q (F0 m tgt ls rest)) (kf : ¬ 0 < a → W p l e R s m args below meth c H locs cells slots Q (F0 m (pc + 3) ls rest)) : W p l e R s m args below meth c H locs cells slots Q (F0 m pc ls (.int (nI a) :: rest)) := lv_if_gt hx hb hdg ht (fun h => kt ((nI_lt0 ha).mp h)) (fun h => kf (fun q => h ((nI_lt0 ha).mpr q)))
theorem br_le0 (hx : p.tables.exec = Jvm.exec) (hb : c.code = cc) {a : Nat} {off : Int} {tgt : Nat} (hdg : decode cc pc = .ok (.ifCond .le off, 3)) (ht : (pc : Int) + off = (tgt : Int)) (ha : a < 2147483648) (kt : a = 0 → W p l e R s m args below meth c H locs cells slots Q (F0 m tgt ls rest)) (kf : ¬ a = 0 → W p l e R s m args below meth c H locs cells slots Q (F0 m (pc + 3) ls rest)) : W p l e R s m args below meth c H locs cells slots Q (F0 m pc ls (.int (nI a) :: rest)) := lv_if_le hx hb hdg ht (fun h => kt ((nI_le0 ha).mp h)) (fun h => kf (fun q => h ((nI_le0 ha).mpr q)))
theorem br_lt0 (hx : p.tables.exec = Jvm.exec) (hb : c.code = cc) {a : Nat} {off : Int} {tgt : Nat} (hdg : decode cc pc = .ok (.ifCond .lt off, 3)) (ht : (pc : Int) + off = (tgt : Int)) (ha : a < 2147483648) (kf : W p l e R s m args below meth c H locs cells slots Q (F0 m (pc + 3) ls rest)) : W p l e R s m args below meth c H locs cells slots Q (F0 m pc ls (.int (nI a) :: rest)) := lv_if_lt hx hb hdg ht (fun h => absurd h (nI_pos ha)) (fun _ => kf)
theorem br_ge0 (hx : p.tables.exec = Jvm.exec) (hb : c.code = cc) {a : Nat} {off : Int} {tgt : Nat} (hdg : decode cc pc = .ok (.ifCond .ge off, 3)) (ht : (pc : Int) + off = (tgt : Int)) (ha : a < 2147483648) (kt : W p l e R s m args below meth c H locs cells slots Q (F0 m tgt ls rest)) : W p l e R s m args below meth c H locs cells slots Q (F0 m pc ls (.int (nI a) :: rest)) := lv_if_ge hx hb hdg ht (fun _ => kt) (fun h => absurd (nI_pos' ha) h)
theorem br_eqb (hx : p.tables.exec = Jvm.exec) (hb : c.code = cc) {P : Prop} [Decidable P] {off : Int} {tgt : Nat} (hdg : decode cc pc = .ok (.ifCond .eq off, 3)) (ht : (pc : Int) + off = (tgt : Int)) (kt : ¬ P → W p l e R s m args below meth c H locs cells slots Q (F0 m tgt ls rest)) (kf : P → W p l e R s m args below meth c H locs cells slots Q (F0 m (pc + 3) ls rest)) : W p l e R s m args below meth c H locs cells slots Q (F0 m pc ls (.int (nI (bb P)) :: rest)) := br_eq0 hx hb hdg ht (by have := @bb_lt P _; omega) (fun h => kt (bb_e0.mp h)) (fun h => kf (by by_cases q : P; exact q; exact absurd (bb_f q) h))
theorem br_neb (hx : p.tables.exec = Jvm.exec) (hb : c.code = cc) {P : Prop} [Decidable P] {off : Int} {tgt : Nat} (hdg : decode cc pc = .ok (.ifCond .ne off, 3)) (ht : (pc : Int) + off = (tgt : Int)) (kt : P → W p l e R s m args below meth c H locs cells slots Q (F0 m tgt ls rest)) (kf : ¬ P → W p l e R s m args below meth c H locs cells slots Q (F0 m (pc + 3) ls rest)) : W p l e R s m args below meth c H locs cells slots Q (F0 m pc ls (.int (nI (bb P)) :: rest)) := br_ne0 hx hb hdg ht (by have := @bb_lt P _; omega) (fun h => kt (by by_cases q : P; exact q; exact absurd (bb_f q) h)) (fun h => kf (bb_e0.mp h))
-- arrays of naturals
theorem upd_nA {f : Nat → Nat} {i x : Nat} (hi : i < 2147483648) : upd (nA f) (nI i).toNatClampNeg (nI x) = nA (va_up f i x) := by
  rw [nI_clamp hi]; funext j; unfold upd nA va_up; split <;> rfl
theorem nr_ald (hx : p.tables.exec = Jvm.exec) (hb : c.code = cc) {G : gG} {ws : va_W} {a : Nat} (hK : va_K G.1 vwCl (tyL G.2) s) (hP : va_P G.1 vwCl ws H) (q0 : Nat) {n i : Nat} {f : Nat → Nat} (ha : ws[q0]? = some (a, .inl (G.2 0, n, .inl (nA f)))) (hi : i < n) (hn : n < 2147483648) (hdg : decode cc pc = .ok (.iaload, 1))
    (kk : W p l e R s m args below meth c H locs cells slots Q (F0 m (pc + 1) ls (.int (nI (f i)) :: rest))) : W p l e R s m args below meth c H locs cells slots Q (F0 m pc ls (.int (nI i) :: .ref a :: rest)) := va_iald hx hb hK hP q0 0 ha rfl (vp_in_nI hi hn) hdg (by rw [nI_clamp (by omega)]; exact kk)
theorem nr_cald (hx : p.tables.exec = Jvm.exec) (hb : c.code = cc) {G : gG} {ws : va_W} {a : Nat} (hK : va_K G.1 vwCl (tyL G.2) s) (hP : va_P G.1 vwCl ws H) (q0 : Nat) {n i : Nat} {f : Nat → Nat} (ha : ws[q0]? = some (a, .inl (G.2 1, n, .inl (nA f)))) (hi : i < n) (hn : n < 2147483648) (hdg : decode cc pc = .ok (.caload, 1))
    (kk : W p l e R s m args below meth c H locs cells slots Q (F0 m (pc + 1) ls (.int (nI (f i)) :: rest))) : W p l e R s m args below meth c H locs cells slots Q (F0 m pc ls (.int (nI i) :: .ref a :: rest)) := va_cald hx hb hK hP q0 1 ha rfl (vp_in_nI hi hn) hdg (by rw [nI_clamp (by omega)]; exact kk)
theorem nr_ast (hx : p.tables.exec = Jvm.exec) (hb : c.code = cc) {G : gG} {ws ws' : va_W} {a : Nat} {A : Nat → Prop} {H0 : Heap} (hK : va_K G.1 vwCl (tyL G.2) s) (hP : va_P G.1 vwCl ws H) (hD : va_D A ws) (hS : va_S A H0 H locs) (q0 : Nat) {n i x : Nat} {f : Nat → Nat} (ha : ws[q0]? = some (a, .inl (G.2 0, n, .inl (nA f)))) (hi : i < n) (hn : n < 2147483648) (hdg : decode cc pc = .ok (.iastore, 1)) (hw : ws.set q0 (a, .inl (G.2 0, n, .inl (nA (va_up f i x)))) = ws')
    (kk : ∀ (H1 : Heap) (locs1 : List Loc), va_P G.1 vwCl ws' H1 → va_D A ws' → va_S A H0 H1 locs1 → W p l e R s m args below meth c H1 locs1 cells slots Q (F0 m (pc + 1) ls rest)) : W p l e R s m args below meth c H locs cells slots Q (F0 m pc ls (.int (nI x) :: .int (nI i) :: .ref a :: rest)) := by
  subst hw
  refine va_iast hx hb hK hP hD hS q0 0 ha rfl (vp_in_nI hi hn) hdg (fun H1 locs1 h1 h2 h3 => ?_)
  rw [upd_nA (by omega)] at h1 h2
  exact kk H1 locs1 h1 h2 h3
theorem nr_alen (hx : p.tables.exec = Jvm.exec) (hb : c.code = cc) {G : gG} {ws : va_W} {a : Nat} (hK : va_K G.1 vwCl (tyL G.2) s) (hP : va_P G.1 vwCl ws H) (q0 : Nat) {n : Nat} {f : Nat → Nat} (ha : ws[q0]? = some (a, .inl (G.2 0, n, .inl (nA f)))) (hdg : decode cc pc = .ok (.arraylength, 1))
    (kk : W p l e R s m args below meth c H locs cells slots Q (F0 m (pc + 1) ls (.int (nI n) :: rest))) : W p l e R s m args below meth c H locs cells slots Q (F0 m pc ls (.ref a :: rest)) := va_alen hx hb hK hP q0 0 ha rfl rfl hdg kk
-- ends
theorem rret {r v : Int32} (hx : p.tables.exec = Jvm.exec) (hb : c.code = cc) (hr : meth.sig.returnType = some .int) (hlk : meth.locks = false) (he : v = r) (hdg : decode cc pc = .ok (.ireturn, 1)) : W p l e R s m args below meth c s.heap [] 0 0 (MQ below (QcRead r) args s 0 0 noF) (F0 m pc ls [.int v]) := W.iret hx hb hr (fun t ht _ => ⟨by rw [he], ht⟩) (fun q h => by cases h) hdg hlk
theorem nar_b {P : Prop} [Decidable P] : narrow .boolean (.int (nI (bb P))) = .int (nI (bb P)) := by
  unfold bb; split <;> decide +kernel
theorem rretz {P : Prop} [Decidable P] {v : Int32} (hx : p.tables.exec = Jvm.exec) (hb : c.code = cc) (hr : meth.sig.returnType = some .boolean) (hlk : meth.locks = false) (he : v = nI (bb P)) (hdg : decode cc pc = .ok (.ireturn, 1)) : W p l e R s m args below meth c s.heap [] 0 0 (MQ below (QcRead (nI (bb P))) args s 0 0 noF) (F0 m pc ls [.int v]) := by
  subst he; exact W.zret hx hb hr nar_b (fun t ht _ => ⟨rfl, ht⟩) (fun q h => by cases h) hdg hlk
theorem wret {S : Type} {G : gG} {A : Nat → Prop} {wn : S → va_W} {post : Int32 → S → Prop} {v : Int32} (hx : p.tables.exec = Jvm.exec) (hb : c.code = cc) (hr : meth.sig.returnType = some .int) (hlk : meth.locks = false) (hK : va_K G.1 vwCl (tyL G.2) s) (hS : va_S A s.heap H locs) (u : S) (hP : va_P G.1 vwCl (wn u) H) (hD : va_D A (wn u)) (hp : post v u) (hdg : decode cc pc = .ok (.ireturn, 1)) : W p l e R s m args below meth c H locs cells slots (MQ below (va_Qi post (WB G A wn) A) args s cells slots A) (F0 m pc ls [.int v]) := W.iret hx hb hr (fun t ht hW => ⟨⟨v, u, rfl, hp, by rw [ht]; exact hP, va_K.moved hW.alike hK, hD⟩, hS.F ht⟩) hS.2.2 hdg hlk
theorem wretz {S : Type} {G : gG} {A : Nat → Prop} {wn : S → va_W} {post : Int32 → S → Prop} {v : Int32} {P : Prop} [Decidable P] (hx : p.tables.exec = Jvm.exec) (hb : c.code = cc) (hr : meth.sig.returnType = some .boolean) (hlk : meth.locks = false) (hK : va_K G.1 vwCl (tyL G.2) s) (hS : va_S A s.heap H locs) (u : S) (hP : va_P G.1 vwCl (wn u) H) (hD : va_D A (wn u)) (hv : v = nI (bb P)) (hp : post v u) (hdg : decode cc pc = .ok (.ireturn, 1)) : W p l e R s m args below meth c H locs cells slots (MQ below (va_Qi post (WB G A wn) A) args s cells slots A) (F0 m pc ls [.int v]) := by
  subst hv; exact W.zret hx hb hr nar_b (fun t ht hW => ⟨⟨_, u, rfl, hp, by rw [ht]; exact hP, va_K.moved hW.alike hK, hD⟩, hS.F ht⟩) hS.2.2 hdg hlk
theorem wretv {S : Type} {G : gG} {A : Nat → Prop} {wn : S → va_W} {post : S → Prop} (hx : p.tables.exec = Jvm.exec) (hb : c.code = cc) (hr : meth.sig.returnType = none) (hlk : meth.locks = false) (hK : va_K G.1 vwCl (tyL G.2) s) (hS : va_S A s.heap H locs) (u : S) (hP : va_P G.1 vwCl (wn u) H) (hD : va_D A (wn u)) (hp : post u) (hdg : decode cc pc = .ok (.return_, 1)) : W p l e R s m args below meth c H locs cells slots (MQ below (va_Qv post (WB G A wn) A) args s cells slots A) (F0 m pc ls []) := W.vret hx hb hr (fun t ht hW => ⟨⟨u, rfl, hp, by rw [ht]; exact hP, va_K.moved hW.alike hK, hD⟩, hS.F ht⟩) hS.2.2 hdg hlk
-- joins and loops
theorem join_v {T : Type} {J nL : Nat} {ls0 : Array Slot} {st0 : List Value} (lv : T → List (Nat × Value)) (st : T → List Value) (φ : T → Prop) (hJ : ∀ v ls, lv_has ls nL (lv v) → φ v → W p l e R s m args below meth c H locs cells slots Q (F0 m J ls (st v))) (k : (∀ v ls, lv_has ls nL (lv v) → φ v → W p l e R s m args below meth c H locs cells slots Q (F0 m J ls (st v))) → W p l e R s m args below meth c H locs cells slots Q (F0 m pc ls0 st0)) : W p l e R s m args below meth c H locs cells slots Q (F0 m pc ls0 st0) := k hJ
theorem loop_r {T : Type} {nL : Nat} {st0 : List Value} (I : T → Prop) (μ : T → Nat) (lv : T → List (Nat × Value)) (hs : ∀ x ls, lv_has ls nL (lv x) → I x → (∀ y ls', lv_has ls' nL (lv y) → I y → μ y < μ x → W p l e R s m args below meth c H locs cells slots Q (F0 m pc ls' st0)) → W p l e R s m args below meth c H locs cells slots Q (F0 m pc ls st0)) (x : T) (hl : lv_has ls nL (lv x)) (hI : I x) : W p l e R s m args below meth c H locs cells slots Q (F0 m pc ls st0) := by
  have key : ∀ (n : Nat) (x : T) (ls : Array Slot), μ x < n → lv_has ls nL (lv x) → I x → W p l e R s m args below meth c H locs cells slots Q (F0 m pc ls st0) := by
    intro n
    induction n with
    | zero => intro x ls h; omega
    | succ n ih => exact fun x ls h h1 h2 => hs x ls h1 h2 (fun y ls' g1 g2 g3 => ih y ls' (by omega) g1 g2)
  exact key (μ x + 1) x ls (Nat.lt_succ_self _) hl hI
theorem loop_w {T : Type} {nL : Nat} {st0 : List Value} {G : gG} {A : Nat → Prop} {H0 : Heap} (I : T → Prop) (μ : T → Nat) (lv : T → List (Nat × Value)) (wl : T → va_W) (hs : ∀ x ls H locs, lv_has ls nL (lv x) → va_P G.1 vwCl (wl x) H → va_D A (wl x) → va_S A H0 H locs → I x → (∀ y ls' H' locs', lv_has ls' nL (lv y) → va_P G.1 vwCl (wl y) H' → va_D A (wl y) → va_S A H0 H' locs' → I y → μ y < μ x → W p l e R s m args below meth c H' locs' cells slots Q (F0 m pc ls' st0)) → W p l e R s m args below meth c H locs cells slots Q (F0 m pc ls st0)) (x : T) (hl : lv_has ls nL (lv x)) (hP : va_P G.1 vwCl (wl x) H) (hD : va_D A (wl x)) (hS : va_S A H0 H locs) (hI : I x) : W p l e R s m args below meth c H locs cells slots Q (F0 m pc ls st0) := by
  have key : ∀ (n : Nat) (x : T) (ls : Array Slot) (H : Heap) (locs : List Loc), μ x < n → lv_has ls nL (lv x) → va_P G.1 vwCl (wl x) H → va_D A (wl x) → va_S A H0 H locs → I x → W p l e R s m args below meth c H locs cells slots Q (F0 m pc ls st0) := by
    intro n
    induction n with
    | zero => intro x ls H locs h; omega
    | succ n ih => exact fun x ls H locs h h1 h2 h3 h4 h5 => hs x ls H locs h1 h2 h3 h4 h5 (fun y ls' H' locs' g1 g2 g3 g4 g5 g6 => ih y ls' H' locs' (by omega) g1 g2 g3 g4 g5)
  exact key (μ x + 1) x ls H locs (Nat.lt_succ_self _) hl hP hD hS hI
-- calls
variable {y : MethodName} {bytes : ByteArray} {maxL nL n index : Nat} {ret : Option FieldType} {ws : List Cond} {rm : Room} {Ts : List Cond} {own C : String} {b : Addr} {As st : List Value} {G : gG} {wl : va_W}
theorem rc_run {r : Int32} {g : JFrame} {free : Addr → Prop} {a : Array Value} (hf : ∀ q, ¬ free q) (hr : va_Run p l e R s m args below meth c H locs cells slots 0 0 g rest (QcRead r a) free) (kk : W p l e R s m args below meth c H locs cells slots Q { g with pc := g.pc + 3, stack := .int r :: rest }) : W p l e R s m args below meth c H locs cells slots Q g := by
  intro T hT X
  obtain ⟨v, st₀, t, T', L, h0, X', hL, e1, -, ⟨hv, hh⟩, st⟩ := hr T hT X
  cases hv
  obtain ⟨t2, a1, b1⟩ := kk T' (by rw [e1, hh, h0]) (Stand.forget X' (fun q h => (hf _ (hL q h)).elim))
  exact ⟨t2, st t2 a1, b1⟩
theorem rd_pre {q : vw_C} {ci q0 : Nat} {fs : List Value} (hK : va_K G.1 vwCl (tyL G.2) s) (hP : va_P G.1 vwCl wl H) (hc : vwCl[ci]? = some q) (he : wl[q0]? = some (b, .inr (ci, fs))) : PreV s H q.1 b (RD G wl (.ref b :: As)) As := ⟨fun a U g mk z => ⟨z.1, z.2.1, va_K.moved (u := U) (U := U.calling g mk a) (Vm.Alike.refl U.vm) z.2.2⟩, va_recv hK hP hc he, fun U hU hW => ⟨rfl, by rw [hU]; exact hP, va_K.moved hW.alike hK⟩⟩
/-- a call of a reader on an object of the world -/
theorem rcV {r : Int32} {q : vw_C} {fs : List Value} (S : CallFix p m c cc nL s args Ts own) (hM : Met l y ws rm (RD G wl (.ref b :: As)) (QcRead r) 0 0 noF) (cw : CallW R s args own q.1 index y bytes maxL ret ws rm 0 0 n) (hK : va_K G.1 vwCl (tyL G.2) s) (hP : va_P G.1 vwCl wl H) (ci q0 : Nat) (hc : vwCl[ci]? = some q) (he : wl[q0]? = some (b, .inr (ci, fs)))
    (hn : As.length = n) (hsize : ls.size = nL) (hst : st = As.reverse ++ .ref b :: rest) (hW : (rest.map fun v => v.category).sum ≤ 8) (hdg : decode cc pc = .ok (.invokevirtual index, 3)) (hf : cells ≤ R.cells ∧ slots ≤ R.slots)
    (kk : W p l e R s m args below meth c H locs cells slots Q (F0 m (pc + 3) ls (.int r :: rest))) : W p l e R s m args below meth c H locs cells slots Q (F0 m pc ls st) :=
  rc_run (fun _ h => h) (va_runV S hM cw (rd_pre hK hP hc he) rfl hn hsize hst (lv_room hW) hdg hf) kk
/-- a call of a static reader -/
theorem rcS {r : Int32} (S : CallFix p m c cc nL s args Ts own) (hM : Met l y ws rm (RS As) (QcRead r) 0 0 noF) (cw : CallB R s args own index y bytes maxL ret ws rm 0 0 n ∧ (Cond.static y).before args s = true)
    (hn : As.length = n) (hsize : ls.size = nL) (hst : st = As.reverse ++ rest) (hW : (rest.map fun v => v.category).sum ≤ 8) (hdg : decode cc pc = .ok (.invokestatic index, 3)) (hf : cells ≤ R.cells ∧ slots ≤ R.slots)
    (kk : W p l e R s m args below meth c H locs cells slots Q (F0 m (pc + 3) ls (.int r :: rest))) : W p l e R s m args below meth c H locs cells slots Q (F0 m pc ls st) :=
  rc_run (fun _ h => h) (va_runS S hM cw preEq rfl hn hsize hst (lv_room hW) hdg hf) kk
/-- .. of a nest mate's private static reader -/
theorem rcN {r : Int32} {host : String} (S : CallFix p m c cc nL s args Ts own) (hM : Met l y ws rm (RS As) (QcRead r) 0 0 noF) (cw : va_CN R s args own index y host bytes maxL ret ws rm 0 0 n ∧ (Cond.static y).before args s = true ∧ True)
    (hn : As.length = n) (hsize : ls.size = nL) (hst : st = As.reverse ++ rest) (hW : (rest.map fun v => v.category).sum ≤ 8) (hdg : decode cc pc = .ok (.invokestatic index, 3)) (hf : cells ≤ R.cells ∧ slots ≤ R.slots)
    (kk : W p l e R s m args below meth c H locs cells slots Q (F0 m (pc + 3) ls (.int r :: rest))) : W p l e R s m args below meth c H locs cells slots Q (F0 m pc ls st) :=
  rc_run (fun _ h => h) (va_runSN S hM cw preEq rfl hn hsize hst (lv_room hW) hdg hf) kk
theorem wr_pre {q : vw_C} {ci q0 : Nat} {fs : List Value} {A : Nat → Prop} (hK : va_K G.1 vwCl (tyL G.2) s) (hP : va_P G.1 vwCl wl H) (hD : va_D A wl) (hc : vwCl[ci]? = some q) (he : wl[q0]? = some (b, .inr (ci, fs))) : PreV s H q.1 b (WR G wl H.size (.ref b :: As)) As := ⟨fun a U g mk z => ⟨z.1, z.2.1, z.2.2.1, va_K.moved (u := U) (U := U.calling g mk a) (Vm.Alike.refl U.vm) z.2.2.2.1, z.2.2.2.2⟩, va_recv hK hP hc he, fun U hU hW => ⟨rfl, by rw [hU], by rw [hU]; exact hP, va_K.moved hW.alike hK, hD.weaken (fun _ _ _ _ => trivial)⟩⟩
end RWS
theorem fm_of {α β : Type} {f : α → Option β} : ∀ {l : List α} {l' : List β}, l.map f = l'.map some → l.filterMap f = l'
  | [], [], _ => rfl
  | [], b :: l', h => by simp at h
  | a :: l, [], h => by simp at h
  | a :: l, b :: l', h => by
    simp only [List.map_cons, List.cons.injEq] at h
    rw [List.filterMap_cons_some h.1, fm_of h.2]
/-- what stands behind a writer's call: the caller's world ws, the callee's wc of it (places isC), the rest wr (isR); the new world wn, its cells by the places js -/
theorem wjoin {S : Type} {G : gG} {A0 : Nat → Prop} {ws wc wr : va_W} {w1 wn : S → va_W} {H H1 : Heap} {t : State} {u : S} (hP : va_P G.1 vwCl ws H) (hD : va_D A0 ws) (isC isR js : List Nat) (hC : isC.map (fun i => ws[i]?) = wc.map some) (hR : isR.map (fun i => ws[i]?) = wr.map some) (hn : va_nd isR = true) (hdis : ∀ i ∈ isR, i ∉ isC) (hnd : va_nd js = true) (hwn : ∀ u, js.map (fun i => (wr ++ w1 u)[i]?) = (wn u).map some)
    (hF : ∀ q, va_A wc H.size q → A0 q) (hB : WB G (va_A wc H.size) w1 u t) (ht : t.heap = H1) (hk : ∀ q : Nat, q < H.size → ¬ va_A wc H.size q → H1[q]? = H[q]?) : va_P G.1 vwCl (wn u) H1 ∧ va_D A0 (wn u) := by
  obtain ⟨hP1, -, hD1⟩ := hB
  rw [ht] at hP1
  obtain ⟨hP2, hD2⟩ := va_join hP hD isC isR hC hR hn hdis hk hF hP1 hD1
  exact ⟨hP2.sub js (fm_of (hwn u)), hD2.sub js hnd (hwn u)⟩
section RWT
variable {p : Program} {l : Launch} {e : Env} {R : Room} {s : State} {m : MethodId} {args : Array Value} {below : List Frame} {meth : Method} {c : Code} {H : Heap} {locs : List Loc} {cells slots : Nat} {Q : State → Prop}
variable {cc : ByteArray} {pc : Nat} {ls : Array Slot} {rest : List Value}
variable {y : MethodName} {bytes : ByteArray} {maxL nL n index mc ms : Nat} {ret : Option FieldType} {wsy : List Cond} {rm : Room} {Ts : List Cond} {own C : String} {b : Addr} {As st : List Value} {G : gG}
theorem wcVi {S : Type} {post : Int32 → S → Prop} {ws wc wr : va_W} {w1 wn : S → va_W} {A0 : Nat → Prop} {H0 : Heap} {q : vw_C} {fs : List Value} (S0 : CallFix p m c cc nL s args Ts own) (hM : Met l y wsy rm (WR G wc H.size (.ref b :: As)) (va_Qi post (WB G (va_A wc H.size) w1) (va_A wc H.size)) mc ms (va_A wc H.size)) (cw : CallW R s args own q.1 index y bytes maxL ret wsy rm mc ms n) (hK : va_K G.1 vwCl (tyL G.2) s) (hP : va_P G.1 vwCl ws H) (hD : va_D A0 ws) (hS : va_S A0 H0 H locs) (hA : ∀ q, H0.size ≤ q → A0 q)
    (isC isR js : List Nat) (hC : isC.map (fun i => ws[i]?) = wc.map some) (hnC : va_nd isC = true) (hR : isR.map (fun i => ws[i]?) = wr.map some) (hnR : va_nd isR = true) (hdis : ∀ i ∈ isR, i ∉ isC) (hnd : va_nd js = true) (hwn : ∀ u, js.map (fun i => (wr ++ w1 u)[i]?) = (wn u).map some) (ci q0 : Nat) (hc : vwCl[ci]? = some q) (he : wc[q0]? = some (b, .inr (ci, fs)))
    (hn : As.length = n) (hsize : ls.size = nL) (hst : st = As.reverse ++ .ref b :: rest) (hW : (rest.map fun v => v.category).sum ≤ 8) (hdg : decode cc pc = .ok (.invokevirtual index, 3)) (hf : cells + mc ≤ R.cells ∧ slots + ms ≤ R.slots)
    (kk : ∀ (r : Int32) (u : S) (H1 : Heap) (locs1 : List Loc), post r u → va_P G.1 vwCl (wn u) H1 → va_D A0 (wn u) → va_S A0 H0 H1 locs1 → W p l e R s m args below meth c H1 locs1 (cells + mc) (slots + ms) Q (F0 m (pc + 3) ls (.int r :: rest))) : W p l e R s m args below meth c H locs cells slots Q (F0 m pc ls st) := by
  have hPc : va_P G.1 vwCl wc H := hP.sub isC (fm_of hC)
  have hDc := hD.sub isC hnC hC
  have hF := va_free hD hS hA isC hC
  refine va_calli (va_runV S0 hM cw (wr_pre hK hPc hDc hc he) rfl hn hsize hst (lv_room hW) hdg hf) hS (fun q _ h => hF q h) hF (fun r u t H1 locs1 ht hvm hp hB hz hk hS1 => ?_)
  obtain ⟨g1, g2⟩ := wjoin hP hD isC isR js hC hR hnR hdis hnd hwn hF hB ht hk
  exact kk r u H1 locs1 hp g1 g2 hS1
theorem wcVv {S : Type} {post : S → Prop} {ws wc wr : va_W} {w1 wn : S → va_W} {A0 : Nat → Prop} {H0 : Heap} {q : vw_C} {fs : List Value} (S0 : CallFix p m c cc nL s args Ts own) (hM : Met l y wsy rm (WR G wc H.size (.ref b :: As)) (va_Qv post (WB G (va_A wc H.size) w1) (va_A wc H.size)) mc ms (va_A wc H.size)) (cw : CallW R s args own q.1 index y bytes maxL ret wsy rm mc ms n) (hK : va_K G.1 vwCl (tyL G.2) s) (hP : va_P G.1 vwCl ws H) (hD : va_D A0 ws) (hS : va_S A0 H0 H locs) (hA : ∀ q, H0.size ≤ q → A0 q)
    (isC isR js : List Nat) (hC : isC.map (fun i => ws[i]?) = wc.map some) (hnC : va_nd isC = true) (hR : isR.map (fun i => ws[i]?) = wr.map some) (hnR : va_nd isR = true) (hdis : ∀ i ∈ isR, i ∉ isC) (hnd : va_nd js = true) (hwn : ∀ u, js.map (fun i => (wr ++ w1 u)[i]?) = (wn u).map some) (ci q0 : Nat) (hc : vwCl[ci]? = some q) (he : wc[q0]? = some (b, .inr (ci, fs)))
    (hn : As.length = n) (hsize : ls.size = nL) (hst : st = As.reverse ++ .ref b :: rest) (hW : (rest.map fun v => v.category).sum ≤ 8) (hdg : decode cc pc = .ok (.invokevirtual index, 3)) (hf : cells + mc ≤ R.cells ∧ slots + ms ≤ R.slots)
    (kk : ∀ (u : S) (H1 : Heap) (locs1 : List Loc), post u → va_P G.1 vwCl (wn u) H1 → va_D A0 (wn u) → va_S A0 H0 H1 locs1 → W p l e R s m args below meth c H1 locs1 (cells + mc) (slots + ms) Q (F0 m (pc + 3) ls rest)) : W p l e R s m args below meth c H locs cells slots Q (F0 m pc ls st) := by
  have hPc : va_P G.1 vwCl wc H := hP.sub isC (fm_of hC)
  have hDc := hD.sub isC hnC hC
  have hF := va_free hD hS hA isC hC
  refine va_callv (va_runV S0 hM cw (wr_pre hK hPc hDc hc he) rfl hn hsize hst (lv_room hW) hdg hf) hS (fun q _ h => hF q h) hF (fun u t H1 locs1 ht hvm hp hB hz hk hS1 => ?_)
  obtain ⟨g1, g2⟩ := wjoin hP hD isC isR js hC hR hnR hdis hnd hwn hF hB ht hk
  exact kk u H1 locs1 hp g1 g2 hS1
end RWT
section RWU
variable {p : Program} {l : Launch} {e : Env} {R : Room} {s : State} {m : MethodId} {args : Array Value} {below : List Frame} {meth : Method} {c : Code} {H : Heap} {locs : List Loc} {cells slots : Nat} {Q : State → Prop} {pc : Nat} {ls : Array Slot} {rest : List Value}
/-- the value on top by another name -/
theorem nr_top {x y : Int32} (h : x = y) (k : W p l e R s m args below meth c H locs cells slots Q (F0 m pc ls (.int y :: rest))) : W p l e R s m args below meth c H locs cells slots Q (F0 m pc ls (.int x :: rest)) := by rw [h]; exact k
end RWU
/-- the bit c of the set A -/
def bt (A c : Nat) : Nat := A / 2 ^ c % 2
/-- the set A without c -/
def rmv (A c : Nat) : Nat := A - bt A c * 2 ^ c
theorem bt_lt (A c : Nat) : bt A c < 2 := Nat.mod_lt _ (by decide)
theorem bt_shr_d : ∀ A, A < 128 → ∀ c, c < 7 → (nI A >>> (nI c &&& 31)) &&& nI 1 = nI (bt A c) := by decide +kernel
theorem bt_shr {A c : Nat} (hA : A < 128) (hc : c < 7) : (nI A >>> (nI c &&& 31)) &&& nI 1 = nI (bt A c) := bt_shr_d A hA c hc
theorem bt_shl_d : ∀ c, c < 7 → nI 1 <<< (nI c &&& 31) = nI (2 ^ c) := by decide +kernel
theorem bt_shl {c : Nat} (hc : c < 7) : nI 1 <<< (nI c &&& 31) = nI (2 ^ c) := bt_shl_d c hc
theorem bt_rm_d : ∀ A, A < 128 → ∀ c, c < 7 → nI A &&& (nI (2 ^ c) ^^^ (-1)) = nI (rmv A c) := by decide +kernel
theorem bt_rm {A c : Nat} (hA : A < 128) (hc : c < 7) : nI A &&& (nI (2 ^ c) ^^^ (-1)) = nI (rmv A c) := bt_rm_d A hA c hc
theorem bt_land_d : ∀ A, A < 128 → ∀ c, c < 7 → (A &&& 2 ^ c = 0 ↔ bt A c = 0) := by decide +kernel
theorem bt_lor_d : ∀ A, A < 128 → ∀ c, c < 7 → (A ||| 2 ^ c) < 128 := by decide +kernel
theorem rmv_lt_d : ∀ A, A < 128 → ∀ c, c < 7 → rmv A c < 128 := by decide +kernel
theorem nI_land (a b : Nat) : nI a &&& nI b = nI (a &&& b) := Int32.toBitVec_inj.mp (by
  show BitVec.ofNat 32 a &&& BitVec.ofNat 32 b = BitVec.ofNat 32 (a &&& b)
  apply BitVec.eq_of_toNat_eq
  simp [Nat.and_mod_two_pow])
theorem nI_lor (a b : Nat) : nI a ||| nI b = nI (a ||| b) := Int32.toBitVec_inj.mp (by
  show BitVec.ofNat 32 a ||| BitVec.ofNat 32 b = BitVec.ofNat 32 (a ||| b)
  apply BitVec.eq_of_toNat_eq
  simp [Nat.or_mod_two_pow])
theorem nI_mmax {a b : Nat} (ha : a < 2147483648) (hb : b < 2147483648) : (if nI a < nI b then nI b else nI a) = nI (Nat.max a b) := by
  by_cases h : a < b
  · rw [if_pos ((nI_ltI ha hb).mpr h)]; congr 1; show b = Nat.max a b; exact (Nat.max_eq_right (by omega)).symm
  · rw [if_neg (fun q => h ((nI_ltI ha hb).mp q))]; congr 1; show a = Nat.max a b; exact (Nat.max_eq_left (by omega)).symm
theorem nI_mmin {a b : Nat} (ha : a < 2147483648) (hb : b < 2147483648) : (if nI b < nI a then nI b else nI a) = nI (Nat.min a b) := by
  by_cases h : b < a
  · rw [if_pos ((nI_ltI hb ha).mpr h)]; congr 1; show b = Nat.min a b; exact (Nat.min_eq_right (by omega)).symm
  · rw [if_neg (fun q => h ((nI_ltI hb ha).mp q))]; congr 1; show a = Nat.min a b; exact (Nat.min_eq_left (by omega)).symm
