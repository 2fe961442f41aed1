/-! the class's rows -/
def cpN (f g : Nat → Nat) (n : Nat) : Nat → Nat := fun j => if j < n then f j else g j
theorem cpN_v (f g : Nat → Nat) (n : Nat) : va_cpy (nA f) (nA g) 0 0 n = nA (cpN f g n) := by
  funext j; unfold va_cpy nA cpN
  by_cases h : j < n
  · rw [if_pos (by omega), if_pos h]; congr 2; omega
  · rw [if_neg (by omega), if_neg h]
section RWX
variable {p : Program} {l : Launch} {e : Env} {R : Room} {s : State} {m : MethodId} {args : Array Value} {below : List Frame} {meth : Method} {c : Code} {H : Heap} {locs : List Loc} {cells slots : Nat} {Q : State → Prop}
variable {cc : ByteArray} {pc : Nat} {ls : Array Slot} {rest : List Value}
theorem nr_copy (hx : p.tables.exec = Jvm.exec) (hb : c.code = cc) (hml : c.maxLocals = ls.size) {own : String} {index : Nat} (hown : s.vm.findClass own = some m.cls) (hlink : (Cond.methodLink own index arraycopyName).before args s = true) (hnat : (Cond.native arraycopyName).before args s = true) (hstat : (Cond.static arraycopyName).before args s = true) (hini : (Cond.initialized "java/lang/System").before args s = true)
    {G : gG} {ws ws' : va_W} {A : Nat → Prop} {H0 : Heap} {a a0 : Nat} (hK : va_K G.1 vwCl (tyL G.2) s) (hP : va_P G.1 vwCl ws H) (hD : va_D A ws) (hS : va_S A H0 H locs) (q0 q1 : Nat) {n n0 n1 : Nat} {f g : Nat → Nat} (ha0 : ws[q0]? = some (a0, .inl (G.2 0, n0, .inl (nA f)))) (ha1 : ws[q1]? = some (a, .inl (G.2 0, n1, .inl (nA g)))) (hn : n < 2147483648) (h4 : n ≤ n0) (h5 : n ≤ n1)
    (hframes : 1 ≤ R.frames) (hlocals : (rest.map fun v => v.category).sum + (nativeFrameWords "java/lang/System" "arraycopy" 5 + 11) ≤ R.locals) (hdg : decode cc pc = .ok (.invokestatic index, 3)) (hw : ws.set q1 (a, .inl (G.2 0, n1, .inl (nA (cpN f g n)))) = ws')
    (kk : ∀ (H1 : Heap) (locs1 : List Loc), va_P G.1 vwCl ws' H1 → va_D A ws' → va_S A H0 H1 locs1 → W p l e R s m args below meth c H1 locs1 cells slots Q (F0 m (pc + 3) ls rest)) : W p l e R s m args below meth c H locs cells slots Q (F0 m pc ls (.int (nI n) :: .int (nI 0) :: .ref a :: .int (nI 0) :: .ref a0 :: rest)) := by
  subst hw
  have e0 : (nI 0).toNatClampNeg = 0 := nI_clamp (by decide)
  have en : (nI n).toNatClampNeg = n := nI_clamp hn
  refine va_copyi hx hb hml hown hlink hnat hstat hini hK hP hD hS q0 q1 0 0 (ty := .int) ha0 ha1 rfl rfl rfl (nI_pos (by decide)) (nI_pos (by decide)) (nI_pos hn) (by rw [e0, en]; omega) (by rw [e0, en]; omega) (fun _ _ => rfl) hframes hlocals hdg (fun H1 locs1 h1 h2 h3 => ?_)
  rw [e0, en, cpN_v] at h1 h2
  exact kk H1 locs1 h1 h2 h3
end RWX
/-- n places of a state from o on, as a row of their own -/
def cut (n o : Nat) (M : Nat → Nat) : Nat → Nat := fun j => if j < n then M (o + j) else 0
theorem cut_at {n o : Nat} {M : Nat → Nat} {j : Nat} (h : j < n) : cut n o M j = M (o + j) := if_pos h
theorem cut_c {n o : Nat} {M M' : Nat → Nat} (h : ∀ j, j < n → M (o + j) = M' (o + j)) : cut n o M = cut n o M' := by
  funext j; unfold cut; split
  · exact h j (by assumption)
  · rfl
theorem cut_up {n o : Nat} {M : Nat → Nat} {i v : Nat} (h : i < n) : va_up (cut n o M) i v = cut n o (va_up M (o + i) v) := by
  funext j
  show (if j = i then v else cut n o M j) = (if j < n then (if o + j = o + i then v else M (o + j)) else 0)
  by_cases e : j = i
  · subst e; rw [if_pos rfl, if_pos h, if_pos rfl]
  · rw [if_neg e, if_neg (show ¬ o + j = o + i by omega)]; rfl
theorem cut_cp (n o : Nat) (M M2 : Nat → Nat) : cpN (cut n o M2) (cut n o M) n = cut n o M2 := by
  funext j; unfold cpN cut; split <;> rfl
/-- the worths of the plots, seven to a plot -/
def vv (M : Nat → Nat) : Nat → Nat := fun j => if j < 168 then wr M (j % 7) (j / 7) else 0
theorem vv_at {M : Nat → Nat} {c k : Nat} (hc : c < 7) (hk : k < 24) : vv M (k * 7 + c) = wr M c k := by
  unfold vv; rw [if_pos (by omega), show (k * 7 + c) % 7 = c by omega, show (k * 7 + c) / 7 = k by omega]
theorem vv_cp (M M2 : Nat → Nat) : cpN (vv M2) (vv M) 168 = vv M2 := by
  funext j; unfold cpN vv; split <;> rfl
theorem vv_c {M M' : Nat → Nat} (h : ag M M') : vv M = vv M' := by
  funext j; unfold vv; split
  · exact ag_wr h (by omega) (by omega)
  · rfl
/-- while a cousin's worths are set anew: those of the plots below n are -/
def wpF (V M : Nat → Nat) (c n : Nat) : Nat → Nat := fun j => if j % 7 = c ∧ j / 7 < n then wr M c (j / 7) else V j
theorem wpF_0 (V M : Nat → Nat) (c : Nat) : wpF V M c 0 = V := by funext j; unfold wpF; rw [if_neg (by omega)]
theorem wpF_s (V M : Nat → Nat) {c : Nat} (hc : c < 7) (n : Nat) : va_up (wpF V M c n) (n * 7 + c) (wr M c n) = wpF V M c (n + 1) := by
  funext j; unfold va_up wpF
  by_cases e : j = n * 7 + c
  · subst e; rw [if_pos rfl, if_pos (by omega), show (n * 7 + c) / 7 = n by omega]
  · rw [if_neg e]
    by_cases h : j % 7 = c ∧ j / 7 < n
    · rw [if_pos h, if_pos (by omega)]
    · rw [if_neg h, if_neg (by omega)]
/-- while a plot's worths are set anew: those to the cousins below n are -/
def wqF (V M : Nat → Nat) (k n : Nat) : Nat → Nat := fun j => if j / 7 = k ∧ j % 7 < n then wr M (j % 7) k else V j
theorem wqF_0 (V M : Nat → Nat) (k : Nat) : wqF V M k 0 = V := by funext j; unfold wqF; rw [if_neg (by omega)]
theorem wqF_s (V M : Nat → Nat) (k : Nat) {n : Nat} (hn : n < 7) : va_up (wqF V M k n) (k * 7 + n) (wr M n k) = wqF V M k (n + 1) := by
  funext j; unfold va_up wqF
  by_cases e : j = k * 7 + n
  · subst e; rw [if_pos rfl, if_pos (by omega), show (k * 7 + n) % 7 = n by omega]
  · rw [if_neg e]
    by_cases h : j / 7 = k ∧ j % 7 < n
    · rw [if_pos h, if_pos (by omega)]
    · rw [if_neg h, if_neg (by omega)]
/-- a weight's change shows in one cousin's worths alone -/
theorem wpF_e {M M' : Nat → Nat} {c : Nat} (hc : c < 7) (h : ∀ d k, d < 7 → k < 24 → ¬ d = c → wr M d k = wr M' d k) : wpF (vv M) M' c 24 = vv M' := by
  funext j; unfold wpF vv
  by_cases q : j % 7 = c ∧ j / 7 < 24
  · rw [if_pos q, if_pos (by omega), q.1]
  · rw [if_neg q]; split
    · exact h _ _ (by omega) (by omega) (by omega)
    · rfl
theorem wqF_e {M M' : Nat → Nat} {k : Nat} (hk : k < 24) (h : ∀ d i, d < 7 → i < 24 → ¬ i = k → wr M d i = wr M' d i) : wqF (vv M) M' k 7 = vv M' := by
  funext j; unfold wqF vv
  by_cases q : j / 7 = k ∧ j % 7 < 7
  · rw [if_pos q, if_pos (by omega), q.1]
  · rw [if_neg q]; split
    · exact h _ _ (by omega) (by omega) (by omega)
    · rfl
theorem wr_w {M : Nat → Nat} {c r v d k : Nat} (hr : r < 4) (hd : d < 7) (hk : k < 24) (hdc : ¬ d = c) : wr M d k = wr (va_up M (120 + (c * 4 + r)) v) d k := sm_c (fun q hq => by
  show M (0 + 4 * k + q) * M (120 + 4 * d + q) = va_up M (120 + (c * 4 + r)) v (0 + 4 * k + q) * va_up M (120 + (c * 4 + r)) v (120 + 4 * d + q)
  unfold va_up; rw [if_neg (by omega), if_neg (by omega)])
theorem wr_a {M : Nat → Nat} {c r v d k : Nat} (hr : r < 4) (hc : c < 24) (hdc : ¬ k = c) : wr M d k = wr (va_up M (0 + (c * 4 + r)) v) d k := sm_c (fun q hq => by
  show M (0 + 4 * k + q) * M (120 + 4 * d + q) = va_up M (0 + (c * 4 + r)) v (0 + 4 * k + q) * va_up M (0 + (c * 4 + r)) v (120 + 4 * d + q)
  unfold va_up; rw [if_neg (by omega), if_neg (by omega)])
def trO (O : Nat → Nat) (c d n : Nat) : Nat → Nat := fun j => if j < n then swp c d (O j) else O j
theorem trO_0 (O : Nat → Nat) (c d : Nat) : trO O c d 0 = O := by funext j; unfold trO; rw [if_neg (by omega)]
theorem trO_o {O : Nat → Nat} {c d n : Nat} : trO O c d n n = O n := by unfold trO; rw [if_neg (by omega)]
theorem trO_s (O : Nat → Nat) (c d n : Nat) : va_up (trO O c d n) n (swp c d (O n)) = trO O c d (n + 1) := by
  funext j; unfold va_up trO
  by_cases e : j = n
  · subst e; rw [if_pos rfl, if_pos (by omega)]
  · rw [if_neg e]; split
    · rw [if_pos (by omega)]
    · rw [if_neg (by omega)]
theorem trO_k {O : Nat → Nat} {c d n : Nat} (h : swp c d (O n) = O n) : trO O c d n = trO O c d (n + 1) := by
  rw [← trO_s, h]; funext j; unfold va_up trO
  by_cases e : j = n
  · subst e; rw [if_pos rfl, if_neg (by omega)]
  · rw [if_neg e]
theorem trO_e (M : Nat → Nat) (c d : Nat) : trO (cut 24 96 M) c d 24 = cut 24 96 (trA M 0 c d 24) := by
  funext j; unfold trO cut trA; split
  · rw [if_pos (by omega)]
  · rfl
theorem gr_cut {M : Nat → Nat} {c d : Nat} (hc : c < 7) (hd : d < 7) : cut 49 148 M (c * 7 + d) = gr M c d := by
  rw [cut_at (by omega)]; unfold gr; congr 1; omega
theorem ow_cut {M : Nat → Nat} {k : Nat} (hk : k < 24) : cut 24 96 M k = ow M 0 k := by
  rw [cut_at hk]; unfold ow; congr 1
theorem am_cut {M : Nat → Nat} {k r : Nat} (hk : k < 24) (hr : r < 4) : cut 96 0 M (k * 4 + r) = M (0 + 4 * k + r) := by
  rw [cut_at (by omega)]; congr 1; omega
theorem we_cut {M : Nat → Nat} {c r : Nat} (hc : c < 7) (hr : r < 4) : cut 28 120 M (c * 4 + r) = M (120 + 4 * c + r) := by
  rw [cut_at (by omega)]; congr 1; omega
theorem rg_e {x : Int32} {n : Nat} (hn : n < 1000) : (¬ (x < 0) ∧ ¬ (nI (n + 1) ≤ x)) ↔ rg x n := by
  rw [← nI_0]
  refine ⟨fun h => ⟨h.1, fun q => h.2 ?_⟩, fun h => ⟨h.1, fun q => h.2 ?_⟩⟩
  · obtain ⟨a, ha, rfl⟩ := nI_of (x := x) (by rw [← nI_0]; exact h.1)
    exact (nI_leI (by omega) ha).mpr ((nI_ltI (by omega) ha).mp q)
  · obtain ⟨a, ha, rfl⟩ := nI_of (x := x) (by rw [← nI_0]; exact h.1)
    exact (nI_ltI (by omega) ha).mpr ((nI_leI (by omega) ha).mp q)
theorem rg_d {x : Int32} {n : Nat} (hn : n < 1000) : (¬ (x < 0) ∧ ¬ (nI n < x)) ↔ rg x n := by rw [← nI_0]
theorem set_a {x y : Int32} (h : x = 0) : ((y = 0) ∨ (y = nI 1)) ↔ ((x = 0 ∧ rg y 1) ∨ (¬ x = 0 ∧ (¬ (y < nI 1) ∧ ¬ (nI 10 < y)))) := by
  constructor
  · rintro (rfl | rfl)
    · exact Or.inl ⟨h, by decide⟩
    · exact Or.inl ⟨h, by decide⟩
  · rintro (⟨-, q⟩ | ⟨q, -⟩)
    · obtain ⟨a, ha, rfl⟩ := rg_of q (by decide)
      rcases (show a = 0 ∨ a = 1 by omega) with rfl | rfl
      · exact Or.inl nI_0
      · exact Or.inr rfl
    · exact absurd h q
theorem set_b {x y : Int32} (h : ¬ x = 0) : (¬ (y < nI 1) ∧ ¬ (nI 10 < y)) ↔ ((x = 0 ∧ rg y 1) ∨ (¬ x = 0 ∧ (¬ (y < nI 1) ∧ ¬ (nI 10 < y)))) :=
  ⟨fun q => Or.inr ⟨h, q⟩, fun q => q.elim (fun w => absurd w.1 h) (fun w => w.2)⟩
/-- the first of the set by the row Od, from the place i on -/
def fo (Od : Nat → Nat) (A : Nat) : Nat → Nat → Nat
  | _, 0 => 7
  | i, n + 1 => if bt A (Od i) = 1 then Od i else fo Od A (i + 1) n
theorem fo_y {Od : Nat → Nat} {A i : Nat} (hi : i < 7) (h : bt A (Od i) = 1) : fo Od A i (7 - i) = Od i := by
  obtain ⟨k, e⟩ : ∃ k, 7 - i = k + 1 := ⟨7 - i - 1, by omega⟩
  rw [e]; exact if_pos h
theorem fo_n {Od : Nat → Nat} {A i : Nat} (hi : i < 7) (h : ¬ bt A (Od i) = 1) : fo Od A (i + 1) (7 - (i + 1)) = fo Od A i (7 - i) := by
  rw [show 7 - i = (7 - (i + 1)) + 1 by omega]; exact (if_neg h).symm
theorem gv_0 (O : Nat → Nat) (a c : Nat) : gv O a (a + 0) c = O := by funext j; unfold gv; rw [if_neg (by omega)]
theorem gv_s (O : Nat → Nat) (a c i : Nat) : va_up (gv O a (a + i) c) (a + i) c = gv O a (a + (i + 1)) c := by
  funext j; unfold va_up gv
  by_cases e : j = a + i
  · subst e; rw [if_pos rfl, if_pos (by omega)]
  · rw [if_neg e]
    by_cases h : a ≤ j ∧ j < a + i
    · rw [if_pos h, if_pos (by omega)]
    · rw [if_neg h, if_neg (by omega)]
