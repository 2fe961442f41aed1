/-! rows for the class's arrays of rows and of signs -/
section RWQ
variable {p : Program} {l : Launch} {e : Env} {R : Room} {s : State} {m : MethodId} {args : Array Value} {below : List Frame} {meth : Method} {c : Code} {H : Heap} {locs : List Loc} {cells slots : Nat} {Q : State → Prop}
variable {cc : ByteArray} {pc : Nat} {ls : Array Slot} {rest : List Value}
theorem nr_aldq (hx : p.tables.exec = Jvm.exec) (hb : c.code = cc) {G : gG} {ws : va_W} {a : Nat} (hK : va_K G.1 vwCl (tyL G.2) s) (hP : va_P G.1 vwCl ws H) (q0 : Nat) {n i b : Nat} {f : Nat → Option Nat} (ha : ws[q0]? = some (a, .inl (G.2 2, n, .inr (.inr (.inr (.inr f)))))) (hf : f i = some b) (hi : i < n) (hn : n < 2147483648) (hdg : decode cc pc = .ok (.aaload, 1))
    (kk : W p l e R s m args below meth c H locs cells slots Q (F0 m (pc + 1) ls (.ref b :: rest))) : W p l e R s m args below meth c H locs cells slots Q (F0 m pc ls (.int (nI i) :: .ref a :: rest)) := va_aldq hx hb hK hP q0 2 ha rfl (vp_in_nI hi hn) hdg (by rw [nI_clamp (by omega), hf]; exact kk)
theorem nr_astq (hx : p.tables.exec = Jvm.exec) (hb : c.code = cc) {G : gG} {ws ws' : va_W} {a : Nat} {A : Nat → Prop} {H0 : Heap} (hK : va_K G.1 vwCl (tyL G.2) s) (hP : va_P G.1 vwCl ws H) (hD : va_D A ws) (hS : va_S A H0 H locs) (q0 qk : Nat) {n i v : Nat} {vs : List Value} {f : Nat → Option Nat} (ha : ws[q0]? = some (a, .inl (G.2 2, n, .inr (.inr (.inr (.inr f)))))) (hv : ws[qk]? = some (v, .inr (1, vs))) (hi : i < n) (hn : n < 2147483648) (hdg : decode cc pc = .ok (.aastore, 1)) (hw : ws.set q0 (a, .inl (G.2 2, n, .inr (.inr (.inr (.inr (va_up f i (some v))))))) = ws')
    (kk : ∀ (H1 : Heap) (locs1 : List Loc), va_P G.1 vwCl ws' H1 → va_D A ws' → va_S A H0 H1 locs1 → W p l e R s m args below meth c H1 locs1 cells slots Q (F0 m (pc + 1) ls rest)) : W p l e R s m args below meth c H locs cells slots Q (F0 m pc ls (.ref v :: .int (nI i) :: .ref a :: rest)) := by
  subst hw
  refine va_astq hx hb hK hP hD hS q0 2 qk 1 ha rfl hv rfl (vp_in_nI hi hn) hdg (fun H1 locs1 h1 h2 h3 => ?_)
  rw [nI_clamp (by omega)] at h1 h2
  exact kk H1 locs1 h1 h2 h3
theorem nar_nI {x : Nat} (hx : x < 65536) : vp_nar .char (nI x) = nI x := by
  rw [vp_nar_char]
  have h2 : (nI x).toUInt32.toNat = x := by
    show (UInt32.ofNat x).toNat = x
    rw [UInt32.toNat_ofNat']; exact Nat.mod_eq_of_lt (by omega)
  have h : (nI x).toUInt32.toUInt16.toUInt32 = (nI x).toUInt32 := by
    rw [← UInt32.toNat_inj, UInt16.toNat_toUInt32, UInt32.toNat_toUInt16, h2]; exact Nat.mod_eq_of_lt (by omega)
  rw [h]; rfl
theorem nr_cast (hx : p.tables.exec = Jvm.exec) (hb : c.code = cc) {G : gG} {ws ws' : va_W} {a : Nat} {A : Nat → Prop} {H0 : Heap} (hK : va_K G.1 vwCl (tyL G.2) s) (hP : va_P G.1 vwCl ws H) (hD : va_D A ws) (hS : va_S A H0 H locs) (q0 : Nat) {n i x : Nat} {f : Nat → Nat} (ha : ws[q0]? = some (a, .inl (G.2 1, n, .inl (nA f)))) (hi : i < n) (hn : n < 2147483648) (hx2 : x < 65536) (hdg : decode cc pc = .ok (.castore, 1)) (hw : ws.set q0 (a, .inl (G.2 1, n, .inl (nA (va_up f i x)))) = ws')
    (kk : ∀ (H1 : Heap) (locs1 : List Loc), va_P G.1 vwCl ws' H1 → va_D A ws' → va_S A H0 H1 locs1 → W p l e R s m args below meth c H1 locs1 cells slots Q (F0 m (pc + 1) ls rest)) : W p l e R s m args below meth c H locs cells slots Q (F0 m pc ls (.int (nI x) :: .int (nI i) :: .ref a :: rest)) := by
  subst hw
  refine va_cast hx hb hK hP hD hS q0 1 ha rfl (vp_in_nI hi hn) hdg (fun H1 locs1 h1 h2 h3 => ?_)
  rw [nar_nI hx2, upd_nA (by omega)] at h1 h2
  exact kk H1 locs1 h1 h2 h3
end RWQ
/-- the four places of the history, by the rows' addresses -/
def q4 (B : Nat → Nat → Nat) : Nat → Option Nat := fun j => if j < 4 then some (B j 0) else none
def rB {α : Type} (B : Nat → α) : Nat → α := fun j => B ((j + 1) % 4)
theorem q4_r (B : Nat → Nat → Nat) : va_up (va_up (va_up (va_up (q4 B) 0 (some (B 1 0))) 1 (some (B 2 0))) 2 (some (B 3 0))) 3 (some (B 0 0)) = q4 (rB B) := by
  funext j; unfold va_up q4 rB
  by_cases h3 : j = 3
  · subst h3; rfl
  · rw [if_neg h3]
    by_cases h2 : j = 2
    · subst h2; rfl
    · rw [if_neg h2]
      by_cases h1 : j = 1
      · subst h1; rfl
      · rw [if_neg h1]
        by_cases h0 : j = 0
        · subst h0; rfl
        · rw [if_neg h0, if_neg (by omega), if_neg (by omega)]
/-- the rows of the history after one more -/
def rU (R : Nat → Nat → Nat) (k : Nat) (M : Nat → Nat) : Nat → Nat → Nat := fun j => if j = k then M else R j
