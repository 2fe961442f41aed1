/-! rows for the class's dividing -/
section RWY
variable {p : Program} {l : Launch} {e : Env} {R : Room} {s : State} {m : MethodId} {args : Array Value} {below : List Frame} {meth : Method} {c : Code} {H : Heap} {locs : List Loc} {cells slots : Nat} {Q : State → Prop}
variable {cc : ByteArray} {pc : Nat} {ls : Array Slot} {rest : List Value}
theorem nr_ldcw (hx : p.tables.exec = Jvm.exec) (hb : c.code = cc) {own : String} {index : Nat} {v : Int32} (hown : s.vm.findClass own = some m.cls) (hcn : (Cond.constant own index v).before args s = true) (hdg : decode cc pc = .ok (.ldc_w index, 3))
    (k : W p l e R s m args below meth c H locs cells slots Q (F0 m (pc + 3) ls (.int v :: rest))) : W p l e R s m args below meth c H locs cells slots Q (F0 m pc ls rest) := by
  intro T hT X
  obtain ⟨t, a, b⟩ := k T hT X
  refine ⟨t, ?_, b⟩
  obtain ⟨kc, cf, bytes, hk, hcf, hcp, hbb⟩ := Cond.constant_spec hown hcn
  obtain ⟨k', hk', he⟩ := X.warmed.alike.2.2 _ _ hk
  jvm_step X.here [X.here.top, hx, hb, hdg, Op.ldc_w.sem, Op.ldc.wp_int (s := T) (f := F0 m pc ls rest) X.here.top hk' (by rw [he]; exact hcf) hcp, hbb]
  exact a
theorem nr_dec (hx : p.tables.exec = Jvm.exec) (hb : c.code = cc) {i nL k v : Nat} {x : Nat} {lv lv' : List (Nat × Value)} (hdg : decode cc pc = .ok (.iinc i (-1), 3)) (h : lv_has ls nL lv) (hk : lv[k]? = some (i, .int (nI x))) (h1 : 1 ≤ x) (hv : x - 1 = v) (hn : i < nL) (hl : (i, Value.int (nI v)) :: lv.filter (fun q => !(q.1 == i) && !(q.1 + 1 == i && q.2.category == 2)) = lv')
    (kk : ∀ ls' : Array Slot, lv_has ls' nL lv' → W p l e R s m args below meth c H locs cells slots Q (F0 m (pc + 3) ls' rest)) : W p l e R s m args below meth c H locs cells slots Q (F0 m pc ls rest) := lv_iinc hx hb hdg h hk (by rw [← hv, ← pk_sub h1, Int32.sub_eq_add_neg]; exact congrArg (nI x + ·) (by decide)) hn hl kk
end RWY
theorem bc_d : ∀ A, A < 128 → (let a := nI A; let u := fun (x y : Int32) => (x.toUInt32 >>> (y.toUInt32 &&& Int32.toUInt32 31)).toInt32; let b := a - ((u a (nI 1)) &&& 1431655765); let d := (b &&& 858993459) + ((u b (nI 2)) &&& 858993459); let f := (d + u d (nI 4)) &&& 252645135; let g := f + u f (nI 8); let h := g + u g (nI 16); h &&& nI 63) = nI (on A) := by decide +kernel
/-! lining up -/
def shF (F : Nat → Nat) (n p : Nat) : Nat → Nat := fun j => if p < j ∧ j ≤ n then F (j - 1) else F j
theorem shF_0 (F : Nat → Nat) (n : Nat) : shF F n n = F := by funext j; unfold shF; rw [if_neg (by omega)]
theorem shF_at (F : Nat → Nat) {n p : Nat} (hp : p ≤ n) : shF F n p (p - 1) = F (p - 1) := by unfold shF; rw [if_neg (by omega)]
theorem shF_s (F : Nat → Nat) {n p : Nat} (hp : 0 < p) (hn : p ≤ n) : va_up (shF F n p) p (F (p - 1)) = shF F n (p - 1) := by
  funext j; unfold va_up shF
  by_cases e : j = p
  · rw [if_pos e, if_pos (show p - 1 < j ∧ j ≤ n by omega), e]
  · rw [if_neg e]
    by_cases h : p < j ∧ j ≤ n
    · rw [if_pos h, if_pos (show p - 1 < j ∧ j ≤ n by omega)]
    · rw [if_neg h, if_neg (show ¬ (p - 1 < j ∧ j ≤ n) by omega)]
def srt (M F : Nat → Nat) (n : Nat) : Prop := (∀ j, j < n → F j < n) ∧ ∀ i j, i < j → j < n → ky M (F i) < ky M (F j)
theorem srt_0 (M F : Nat → Nat) : srt M F 0 := ⟨fun j h => absurd h (Nat.not_lt_zero j), fun i j _ h => absurd h (Nat.not_lt_zero j)⟩
theorem srt_s {M F : Nat → Nat} (h0 : ok M) {n p : Nat} (hs : srt M F n) (hn : n < 7) (hp : p ≤ n) (ha : ∀ j, p ≤ j → j < n → ahd M n (F j)) (hb : p = 0 ∨ ¬ ahd M n (F (p - 1))) : srt M (va_up (shF F n p) p n) (n + 1) := by
  have g1 : ∀ j, j < p → va_up (shF F n p) p n j = F j := fun j hj => by unfold va_up shF; rw [if_neg (show ¬ j = p by omega), if_neg (show ¬ (p < j ∧ j ≤ n) by omega)]
  have g2 : va_up (shF F n p) p n p = n := by unfold va_up; rw [if_pos rfl]
  have g3 : ∀ j, p < j → j ≤ n → va_up (shF F n p) p n j = F (j - 1) := fun j hj hj2 => by unfold va_up shF; rw [if_neg (show ¬ j = p by omega), if_pos ⟨hj, hj2⟩]
  have k1 : ∀ j, j < p → ky M (F j) < ky M n := fun j hj => by
    rcases hb with e | e
    · omega
    · have hF := hs.1 (p - 1) (by omega)
      rw [ky_a h0 hn (show F (p - 1) < 7 by omega)] at e
      have e2 : ¬ ky M (F (p - 1)) = ky M n := fun q => by have := ky_i h0 (show F (p - 1) < 7 by omega) hn q; omega
      rcases Nat.lt_or_ge j (p - 1) with q | q
      · have := hs.2 j (p - 1) q (by omega); omega
      · have : j = p - 1 := by omega
        subst this; omega
  have k2 : ∀ j, p ≤ j → j < n → ky M n < ky M (F j) := fun j h1 h2 => (ky_a h0 hn (show F j < 7 by have := hs.1 j h2; omega)).mp (ha j h1 h2)
  refine ⟨fun j hj => ?_, fun i j hij hj => ?_⟩
  · rcases Nat.lt_trichotomy j p with q | q | q
    · rw [g1 j q]; have := hs.1 j (by omega); omega
    · rw [q, g2]; omega
    · rw [g3 j q (by omega)]; have := hs.1 (j - 1) (by omega); omega
  · rcases Nat.lt_trichotomy j p with q | q | q
    · rw [g1 j q, g1 i (by omega)]; exact hs.2 i j hij (by omega)
    · rw [q, g2, g1 i (by omega)]; exact k1 i (by omega)
    · rw [g3 j q (by omega)]
      rcases Nat.lt_trichotomy i p with q2 | q2 | q2
      · rw [g1 i q2]; exact Nat.lt_trans (k1 i q2) (k2 (j - 1) (by omega) (by omega))
      · rw [q2, g2]; exact k2 (j - 1) (by omega) (by omega)
      · rw [g3 i q2 (by omega)]; exact hs.2 (i - 1) (j - 1) (by omega) (by omega)
theorem srt_io {M F : Nat → Nat} (h0 : ok M) (hs : srt M F 7) {j : Nat} (hj : j < 7) : F j = io M j := by
  have hl : ∀ i, i < 7 → pl M (F i) < 7 := fun i hi => pl_lt h0 (hs.1 i hi)
  have hm : ∀ i k, i < k → k < 7 → pl M (F i) < pl M (F k) := fun i k h1 h2 => pl_l h0 (hs.1 i (by omega)) (hs.1 k h2) (hs.2 i k h1 h2)
  have e : pl M (F j) = j := by
    have a0 := hm 0 1 (by decide) (by decide)
    have a1 := hm 1 2 (by decide) (by decide)
    have a2 := hm 2 3 (by decide) (by decide)
    have a3 := hm 3 4 (by decide) (by decide)
    have a4 := hm 4 5 (by decide) (by decide)
    have a5 := hm 5 6 (by decide) (by decide)
    have a6 := hl 6 (by decide)
    rcases (show j = 0 ∨ j = 1 ∨ j = 2 ∨ j = 3 ∨ j = 4 ∨ j = 5 ∨ j = 6 by omega) with rfl | rfl | rfl | rfl | rfl | rfl | rfl <;> omega
  have := io_at h0 (hs.1 j hj)
  rw [e] at this; exact this.symm
/-! a round, told by the class's fields -/
def psx (r : Nat × Nat × Nat × Nat) (ps : Nat) : Nat := if r.1 = 7 then ps else r.2.1
theorem psx_n {c f t u ps : Nat} (h : ¬ c = 7) : psx (c, f, t, u) ps = f := if_neg h
theorem rstp_r (c h q t u f s g T U : Nat) : rstp c h q (T + t) (U + u) f s g = ((rstp c h q t u f s g).1, (rstp c h q t u f s g).2.1, T + (rstp c h q t u f s g).2.2.1, U + (rstp c h q t u f s g).2.2.2) := by
  unfold rstp; (repeat' split) <;> rfl
theorem psx_r {c h q t u f s g ps : Nat} (hc : ¬ c = 7) (hh : ¬ h = 7) : psx (rstp c h q t u f s g) ps = (rstp c h q t u f s g).2.1 := by
  refine if_neg ?_
  unfold rstp; rw [if_neg hh]; (repeat' split) <;> assumption
theorem on_1 : ∀ L, L < 128 → on L = 1 → ∀ c, c < 7 → bt L c = 1 → c = lb L := by decide +kernel
/-- the first in the order of those that are left is the last one left -/
theorem fo_lb {M : Nat → Nat} {L : Nat} (h0 : ok M) (hL : L < 128) (h1 : on L = 1) : ∀ {i : Nat}, i ≤ 7 → (∀ j, j < i → ¬ bt L (io M j) = 1) → fo (io M) L i (7 - i) = lb L := by
  have hlb := lb_d L hL (by omega)
  have huq : ∀ c, c < 7 → bt L c = 1 → c = lb L := fun c hc hb => on_1 L hL h1 c hc hb
  have key : ∀ f i, i + f = 7 → (∀ j, j < i → ¬ bt L (io M j) = 1) → fo (io M) L i f = lb L := by
    intro f
    induction f with
    | zero =>
      intro i hi hn
      exfalso
      obtain ⟨j, hj, e⟩ : ∃ j, j < 7 ∧ io M j = lb L := ⟨pl M (lb L), pl_lt h0 hlb.1, io_at h0 hlb.1⟩
      exact hn j (by omega) (by rw [e]; exact hlb.2.1)
    | succ f ih =>
      intro i hi hn
      show (if bt L (io M i) = 1 then io M i else fo (io M) L (i + 1) f) = lb L
      by_cases q : bt L (io M i) = 1
      · rw [if_pos q]; exact huq _ (io_lt h0 (by omega)) q
      · rw [if_neg q]
        exact ih (i + 1) (by omega) (fun j hj => by rcases Nat.lt_or_ge j i with z | z; exact hn j z; rw [show j = i by omega]; exact q)
  exact fun {i} hi hn => key (7 - i) i (by omega) hn
theorem fo_cg {Od Od' : Nat → Nat} {A : Nat} (h : ∀ j, j < 7 → Od j = Od' j) : ∀ (f i : Nat), i + f = 7 → fo Od A i f = fo Od' A i f
  | 0, _, _ => rfl
  | f + 1, i, hi => by
    show (if bt A (Od i) = 1 then Od i else fo Od A (i + 1) f) = (if bt A (Od' i) = 1 then Od' i else fo Od' A (i + 1) f)
    rw [h i (by omega), fo_cg h f (i + 1) (by omega)]
