/-! what the calls answer and leave, one function for both programs -/
abbrev A4 : Type := Int32 × (Nat → Nat) × (Nat → Nat) × Nat
def blk (P : Nat → Nat) (j : Nat) : Nat → Nat := fun i => P (202 * j + i)
def qSettle (M P : Nat → Nat) (kn : Nat) (r : Int32) (M1 P1 : Nat → Nat) (k1 : Nat) : Prop := ((bsf M (ow M 0) 49).1 = 0 ∧ r = -5 ∧ M1 = M ∧ P1 = P ∧ k1 = kn) ∨ (¬ (bsf M (ow M 0) 49).1 = 0 ∧ P1 = pushP P M kn ∧ k1 = pushK kn ∧ ∃ n, stq M (ow M 0) n ∧ r = nI n ∧ M1 = va_up (dvM M 0 (stO M (ow M 0) n) 0 0) 201 (M 201 + n))
theorem qSettle_n {M P : Nat → Nat} {kn : Nat} (h : (bsf M (ow M 0) 49).1 = 0) : qSettle M P kn (-5) M P kn := Or.inl ⟨h, rfl, rfl, rfl, rfl⟩
theorem qSettle_y {M P : Nat → Nat} {kn n : Nat} (h : ¬ (bsf M (ow M 0) 49).1 = 0) (hq : stq M (ow M 0) n) : qSettle M P kn (nI n) (va_up (dvM M 0 (stO M (ow M 0) n) 0 0) 201 (M 201 + n)) (pushP P M kn) (pushK kn) := Or.inr ⟨h, rfl, rfl, n, hq, rfl, rfl⟩
theorem qSettle_1 {M P P' : Nat → Nat} {kn : Nat} {r r' : Int32} {M1 M1' P1 P1' : Nat → Nat} {k1 k1' : Nat} (h : qSettle M P kn r M1 P1 k1) (h' : qSettle M P' kn r' M1' P1' k1') : r = r' ∧ M1 = M1' ∧ k1 = k1' ∧ ((P1 = P ∧ P1' = P' ∧ k1 = kn) ∨ (P1 = pushP P M kn ∧ P1' = pushP P' M kn ∧ k1 = pushK kn)) := by
  rcases h with ⟨a1, a2, a3, a4, a5⟩ | ⟨a1, a2, a3, n, a4, a5, a6⟩ <;> rcases h' with ⟨b1, b2, b3, b4, b5⟩ | ⟨b1, b2, b3, n', b4, b5, b6⟩
  · exact ⟨a2.trans b2.symm, a3.trans b3.symm, a5.trans b5.symm, Or.inl ⟨a4, b4, a5⟩⟩
  · exact absurd a1 b1
  · exact absurd b1 a1
  · have e := stq_1 a4 b4
    subst e
    exact ⟨a5.trans b5.symm, a6.trans b6.symm, a3.trans b3.symm, Or.inr ⟨a2, b2, a3⟩⟩
def aType (T : Nat → Nat) (ln ch : Nat) : Int32 × (Nat → Nat) × Nat := if ln = 60 then (-3, T, ln) else (nI (ln + 1), va_up T ln ch, ln + 1)
def aUndo (M P : Nat → Nat) (kn : Nat) : Int32 × (Nat → Nat) × Nat := if kn = 0 then (-5, M, kn) else (nI (kn - 1), cpA M (blk P (kn - 1)) 0 202, kn - 1)
theorem cpU_s (M f : Nat → Nat) (i : Nat) : va_up (cpA M f 0 i) i (f i) = cpA M f 0 (i + 1) := by have := cpA_s M f 0 i; rwa [Nat.zero_add] at this
def gvn (M : Nat → Nat) : Nat := 24 - pc4 (ow M 0) 7
theorem gvn_e (M : Nat → Nat) : sm (fun k => bb (¬ ow M 0 k = 7)) 24 = gvn M := by
  have key : ∀ n, sm (fun k => bb (¬ ow M 0 k = 7)) n + sm (fun k => bb (ow M 0 k = 7)) n = n := by
    intro n
    induction n with
    | zero => rfl
    | succ n ih =>
      rw [sm_s, sm_s]
      show sm (fun k => bb (¬ ow M 0 k = 7)) n + bb (¬ ow M 0 n = 7) + (sm (fun k => bb (ow M 0 k = 7)) n + bb (ow M 0 n = 7)) = n + 1
      by_cases h : ow M 0 n = 7
      · rw [bb_t h, bb_f (show ¬ ¬ ow M 0 n = 7 from fun q => q h)]; omega
      · rw [bb_f h, bb_t (show ¬ ow M 0 n = 7 from h)]; omega
  have := key 24
  unfold gvn pc4; omega
def aRestore (M P Q : Nat → Nat) (kn ik : Nat) : A4 := if ik = 0 then (-5, M, P, kn) else (nI (gvn (cpA M Q 0 202)), cpA M Q 0 202, pushP P M kn, pushK kn)
abbrev pty (x : Int32) : Prop := ¬ (x < nI 1) ∧ ¬ (nI 127 < x)
theorem pty_of {x : Int32} (h : pty x) : ∃ a, (0 < a ∧ a < 128) ∧ x = nI a := by
  have h1 : rg x 127 := ⟨fun q => h.1 (Int32.lt_trans q (by decide)), h.2⟩
  obtain ⟨a, ha, rfl⟩ := rg_of h1 (by decide)
  refine ⟨a, ⟨?_, by omega⟩, rfl⟩
  rcases Nat.eq_zero_or_pos a with q | q
  · subst q; exact absurd (by decide : nI 0 < nI 1) h.1
  · exact q
theorem set_n {x y : Int32} (h : (x = 0 ∧ rg y 1) ∨ (¬ x = 0 ∧ (¬ (y < nI 1) ∧ ¬ (nI 10 < y)))) : ∃ b, b ≤ 10 ∧ y = nI b := by
  have h1 : rg y 10 := by
    rcases h with h | h
    · exact ⟨h.2.1, fun q => h.2.2 (Int32.lt_trans (by decide) q)⟩
    · exact ⟨fun q => h.2.1 (Int32.lt_trans q (by decide)), h.2.2⟩
  exact rg_of h1 (by decide)
/-- whose the plots are when those of A have divided them -/
def dO (M : Nat → Nat) (A : Nat) : Nat → Nat := gv (fin M (ow M 0) A).2.2.1 (fin M (ow M 0) A).2.1 24 (lb (fin M (ow M 0) A).1)
def dT_ (M : Nat → Nat) (A : Nat) : Nat := (fin M (ow M 0) A).2.2.2.1
def dU (M : Nat → Nat) (A : Nat) : Nat := (fin M (ow M 0) A).2.2.2.2
def dL (M : Nat → Nat) (A : Nat) : Nat := lb (fin M (ow M 0) A).1
def dM (M : Nat → Nat) (A : Nat) : Nat → Nat := dvM M 0 (dO M A) (dT_ M A) (dU M A)
def aDiv (M P : Nat → Nat) (kn : Nat) (x : Int32) : A4 := if pty x then (nI (dT_ M (nn x)), dM M (nn x), pushP P M kn, pushK kn) else (-2, M, P, kn)
def aTrade (M P : Nat → Nat) (kn : Nat) (x y : Int32) : A4 := if rg x 6 ∧ rg y 6 then (if x = y then (-2, M, P, kn) else if rs M (ow M 0) (nn x) (nn y) = 0 then (nI (es M (swO (ow M 0) (nn x) (nn y)) 127 127), va_up (trA M 0 (nn x) (nn y) 24) 201 (M 201 + 1), pushP P M kn, pushK kn) else (-10 - nI (rs M (ow M 0) (nn x) (nn y)), M, P, kn)) else (-1, M, P, kn)
theorem io_c {M M' : Nat → Nat} (h0 : ok M) (h0' : ok M') (h : ag M M') {j : Nat} (hj : j < 7) : io M j = io M' j := by
  have h1 := io_lt h0 hj
  have h2 := io_pl h0 hj
  rw [ag_pl h h1] at h2
  have := io_at h0' h1
  rw [h2] at this; exact this.symm
theorem dvr_c {M M' : Nat → Nat} (h0 : ok M) (h0' : ok M') (h : ag M M') {x x' : dT} (h1 : x.1 = x'.1) (h2 : x.2.1 = x'.2.1) (ha : x.2.1 ≤ 24) : dvr M x = dvr M' x' := by
  unfold dvr; rw [← h1, ← h2]
  exact rst_c h (fun k hk => io_c h0 h0' h hk) (fun k hk => io_lt h0 hk) ha (Nat.le_refl 7)
theorem dvs_c {M M' O O' : Nat → Nat} {A : Nat} (h0 : ok M) (h0' : ok M') (h : ag M M') (hA : A < 128) (hO : ∀ k, k < 24 → O k < 8) : ∀ {n : Nat}, n + 1 ≤ on A → (dvs M O A n).1 = (dvs M' O' A n).1 ∧ (dvs M O A n).2.1 = (dvs M' O' A n).2.1 ∧ (dvs M O A n).2.2.2.1 = (dvs M' O' A n).2.2.2.1 ∧ (dvs M O A n).2.2.2.2 = (dvs M' O' A n).2.2.2.2 ∧ ∀ k, k < (dvs M O A n).2.1 → (dvs M O A n).2.2.1 k = (dvs M' O' A n).2.2.1 k
  | 0, _ => ⟨rfl, rfl, rfl, rfl, fun k hk => absurd hk (Nat.not_lt_zero k)⟩
  | n + 1, hn => by
    have ih := dvs_c (O' := O') h0 h0' h hA hO (n := n) (by omega)
    have hi := dvs_i h0 hA hO (n := n) (by omega)
    have hr : dvr M (dvs M O A n) = dvr M' (dvs M' O' A n) := dvr_c h0 h0' h ih.1 ih.2.1 hi.2.2.1
    refine ⟨?_, ?_, ?_, ?_, ?_⟩
    · show rmv (dvs M O A n).1 (dvr M (dvs M O A n)).1 = rmv (dvs M' O' A n).1 (dvr M' (dvs M' O' A n)).1
      rw [hr, ih.1]
    · show (dvs M O A n).2.1 + (dvr M (dvs M O A n)).2.1 = (dvs M' O' A n).2.1 + (dvr M' (dvs M' O' A n)).2.1
      rw [hr, ih.2.1]
    · show (dvs M O A n).2.2.2.1 + (dvr M (dvs M O A n)).2.2.1 = (dvs M' O' A n).2.2.2.1 + (dvr M' (dvs M' O' A n)).2.2.1
      rw [hr, ih.2.2.1]
    · show (dvs M O A n).2.2.2.2 + (dvr M (dvs M O A n)).2.2.2 = (dvs M' O' A n).2.2.2.2 + (dvr M' (dvs M' O' A n)).2.2.2
      rw [hr, ih.2.2.2.1]
    · intro k hk
      have hk2 : k < (dvs M O A n).2.1 + (dvr M (dvs M O A n)).2.1 := hk
      show gv (dvs M O A n).2.2.1 (dvs M O A n).2.1 ((dvs M O A n).2.1 + (dvr M (dvs M O A n)).2.1) (dvr M (dvs M O A n)).1 k = gv (dvs M' O' A n).2.2.1 (dvs M' O' A n).2.1 ((dvs M' O' A n).2.1 + (dvr M' (dvs M' O' A n)).2.1) (dvr M' (dvs M' O' A n)).1 k
      rw [← hr, ← ih.2.1]
      unfold gv
      by_cases q : (dvs M O A n).2.1 ≤ k ∧ k < (dvs M O A n).2.1 + (dvr M (dvs M O A n)).2.1
      · rw [if_pos q, if_pos q]
      · rw [if_neg q, if_neg q]; exact ih.2.2.2.2 k (by omega)
theorem fin_c {M M' O O' : Nat → Nat} {A : Nat} (h0 : ok M) (h0' : ok M') (h : ag M M') (hA0 : 0 < A) (hA : A < 128) (hO : ∀ k, k < 24 → O k < 8) : (fin M O A).1 = (fin M' O' A).1 ∧ (fin M O A).2.1 = (fin M' O' A).2.1 ∧ (fin M O A).2.2.2.1 = (fin M' O' A).2.2.2.1 ∧ (fin M O A).2.2.2.2 = (fin M' O' A).2.2.2.2 ∧ ∀ k, k < 24 → gv (fin M O A).2.2.1 (fin M O A).2.1 24 (lb (fin M O A).1) k = gv (fin M' O' A).2.2.1 (fin M' O' A).2.1 24 (lb (fin M' O' A).1) k := by
  have hon := on_p A hA hA0
  have c := dvs_c (O' := O') h0 h0' h hA hO (n := on A - 1) (by omega)
  have hi := dvs_i h0 hA hO (n := on A - 1) (by omega)
  refine ⟨c.1, c.2.1, c.2.2.1, c.2.2.2.1, fun k hk => ?_⟩
  show gv (dvs M O A (on A - 1)).2.2.1 (dvs M O A (on A - 1)).2.1 24 (lb (dvs M O A (on A - 1)).1) k = gv (dvs M' O' A (on A - 1)).2.2.1 (dvs M' O' A (on A - 1)).2.1 24 (lb (dvs M' O' A (on A - 1)).1) k
  rw [← c.1, ← c.2.1]
  unfold gv
  by_cases q : (dvs M O A (on A - 1)).2.1 ≤ k ∧ k < 24
  · rw [if_pos q, if_pos q]
  · rw [if_neg q, if_neg q]; exact c.2.2.2.2 k (by omega)
theorem dvM_c {M : Nat → Nat} {p : Nat} {O O' : Nat → Nat} (t u : Nat) (h : ∀ k, k < 24 → O k = O' k) : dvM M p O t u = dvM M p O' t u := by
  funext j; unfold dvM; split
  · exact h _ (by omega)
  · rfl
theorem dO_lt {M : Nat → Nat} {A : Nat} (h0 : ok M) (hA0 : 0 < A) (hA : A < 128) (hO : ∀ k, k < 24 → ow M 0 k < 8) : ∀ k, k < 24 → dO M A k < 8 := by
  have hon := on_p A hA hA0
  have hi := dvs_i h0 hA hO (n := on A - 1) (by omega)
  have hl := lb_d (fin M (ow M 0) A).1 hi.1 (by have := hi.2.1; show 0 < on (dvs M (ow M 0) A (on A - 1)).1; omega)
  exact gv_lt (by omega) hi.2.2.2
/-- what a division tells, without one being kept -/
def aIf (M : Nat → Nat) (x y : Int32) : Int32 := if pty x ∧ rg y 4 then (if nn y = 0 then nI (dT_ M (nn x)) else if nn y = 1 then nI (dU M (nn x)) else if nn y = 2 then nI (es M (dO M (nn x)) 127 127) else if nn y = 3 then nI (dO M (nn x) 0) else nI (dL M (nn x))) else -2
def bT (M : Nat → Nat) : Nat × Nat := bsf M (ow M 0) 49
def aBest (M : Nat → Nat) (x : Int32) : Int32 := if rg x 1 then (if (bT M).1 = 0 then -5 else if x = 0 then nI (bT M).1 else nI (bT M).2) else -2
def wE (M : Nat → Nat) (c : Nat) : Nat := es M (dO M (rmv 127 c)) (rmv 127 c) (rmv 127 c)
/-- the cousin without whom the others envy least, and how much: the first n seen -/
def bW (M : Nat → Nat) : Nat → Nat × Nat
  | 0 => (0, wE M 0)
  | n + 1 => if wE M (n + 1) < (bW M n).2 then (n + 1, wE M (n + 1)) else bW M n
def aBestW (M : Nat → Nat) (x : Int32) : Int32 := if rg x 1 then (if x = 0 then nI (bW M 6).1 else nI (bW M 6).2) else -2
def aPlot (M : Nat → Nat) (x y : Int32) : Int32 := if rg x 23 then (if rg y 11 then (if nn y < 4 then nI (M (0 + 4 * nn x + nn y)) else if nn y = 4 then nI (ow M 0 (nn x)) else nI (wr M (nn y - 5) (nn x))) else -2) else -1
def hnd (M : Nat → Nat) (c : Nat) : Nat := if wf M c 0 = 0 then 0 else 100 * sh M (ow M 0) c c / wf M c 0
def aCousin (M : Nat → Nat) (x y : Int32) : Int32 := if rg x 6 then (if rg y 12 then (if nn y < 4 then nI (M (120 + 4 * nn x + nn y)) else if nn y = 4 then nI (pc4 (ow M 0) (nn x)) else if nn y = 5 then nI (sh M (ow M 0) (nn x) (nn x)) else if nn y = 6 then nI (wf M (nn x) 0) else if nn y = 7 then nI (hnd M (nn x)) else if nn y = 8 then nI (gs M (nn x)) else if nn y = 9 then nI (es M (ow M 0) (2 ^ nn x) 127) else if nn y = 10 then nI (me M (ow M 0) (nn x) 7) else if nn y = 11 then nI (es M (ow M 0) 127 (2 ^ nn x)) else nI (pl M (nn x))) else -2) else -1
def aPair (M : Nat → Nat) (x y z : Int32) : Int32 := if rg x 6 ∧ rg y 6 then (if ¬ x = y ∧ rg z 4 then (if nn z = 0 then nI (gr M (nn x) (nn y)) else if nn z = 1 then nI (sh M (ow M 0) (nn x) (nn y)) else if nn z = 2 then nI (se M (ow M 0) (nn x) (nn y)) else if nn z = 3 then nI (ev M (ow M 0) (nn x) (nn y)) else nI (rs M (ow M 0) (nn x) (nn y))) else -2) else -1
def aTotal (M : Nat → Nat) (kn ln : Nat) (x : Int32) : Int32 := if rg x 10 then (if nn x = 0 then nI (M 197) else if nn x = 1 then nI (M 198) else if nn x = 2 then nI (pc4 (ow M 0) 7) else if nn x = 3 then nI (es M (ow M 0) 127 127) else if nn x = 4 then nI (sm (fun c => bb (me M (ow M 0) c 7 = 0)) 7) else if nn x = 5 then nI (td M (ow M 0) 49) else if nn x = 6 then nI (M 199) else if nn x = 7 then nI (M 200) else if nn x = 8 then nI (M 201) else if nn x = 9 then nI kn else nI ln) else -2
theorem rg_out {x : Int32} {n : Nat} (hn : n < 1000) (h : ¬ rg x n) : x.toInt < 0 ∨ (n : Int) < x.toInt := by
  by_cases q : x < nI 0
  · left; rw [Int32.lt_iff_toInt_lt, nI_toInt (by decide)] at q; exact q
  · right
    have q2 : nI n < x := Decidable.of_not_not (fun z => h ⟨q, z⟩)
    rw [Int32.lt_iff_toInt_lt, nI_toInt (by omega)] at q2; exact q2
theorem ok_up {M : Nat → Nat} {j v : Nat} (h : ok M) (hj : 199 ≤ j) : ok (va_up M j v) := by
  have e : ∀ i, i < 199 → va_up M j v i = M i := fun i hi => by unfold va_up; rw [if_neg (by omega)]
  refine ⟨fun i hi => ?_, fun i hi => ?_, fun i hi => ?_, fun i hi => ?_, ?_, ?_, ?_⟩
  · rw [e i (by omega)]; exact h.1 i hi
  · rw [e _ (by omega)]; exact h.2.1 i hi
  · rw [e _ (by omega)]; exact h.2.2.1 i hi
  · rw [e _ (by omega)]; exact h.2.2.2.1 i hi
  · rw [e _ (by omega)]; exact h.2.2.2.2.1
  · rw [e _ (by omega)]; exact h.2.2.2.2.2.1
  · rw [e _ (by omega)]; exact h.2.2.2.2.2.2
theorem tr1_ag (M : Nat → Nat) (c d v : Nat) : ag M (va_up (trA M 0 c d 24) 201 v) := fun j h1 h2 => by
  unfold va_up; rw [if_neg (by omega)]; exact trA_ag M 0 c d (Or.inl rfl) j h1 h2
theorem tr1_ow (M : Nat → Nat) (c d v : Nat) {k : Nat} (hk : k < 24) : ow (va_up (trA M 0 c d 24) 201 v) 0 k = swO (ow M 0) c d k := by
  show va_up (trA M 0 c d 24) 201 v (0 + 96 + k) = _
  unfold va_up; rw [if_neg (by omega)]; exact trA_ow M 0 c d hk
theorem tr1_x (M : Nat → Nat) (c d : Nat) : trA M 0 c d 24 201 = M 201 := by unfold trA; rw [if_neg (by omega)]
theorem cpA_ow {M Q : Nat → Nat} {k : Nat} (hk : k < 24) : ow (cpA M Q 0 202) 0 k = ow Q 0 k := by
  unfold ow cpA; rw [if_pos (by omega), Nat.sub_zero]
/-! the copy of the row behind it -/
theorem sc_lo (M : Nat → Nat) {j : Nat} (hj : j < 202) : cpA M M 202 202 j = M j := cpA_out (by omega)
theorem sc_hi (M : Nat → Nat) {j : Nat} (hj : j < 202) : cpA M M 202 202 (202 + j) = M j := cpA_in hj
theorem sc_ag (M : Nat → Nat) : ag M (cpA M M 202 202) := fun j h1 _ => (sc_lo M (by omega)).symm
theorem ag_ok {M M' : Nat → Nat} (h0 : ok M) (h : ∀ j, j < 202 → M' j = M j) : ok M' := by
  refine ⟨fun i hi => ?_, fun i hi => ?_, fun i hi => ?_, fun i hi => ?_, ?_, ?_, ?_⟩
  · rw [h i (by omega)]; exact h0.1 i hi
  · rw [h _ (by omega)]; exact h0.2.1 i hi
  · rw [h _ (by omega)]; exact h0.2.2.1 i hi
  · rw [h _ (by omega)]; exact h0.2.2.2.1 i hi
  · rw [h _ (by omega)]; exact h0.2.2.2.2.1
  · rw [h _ (by omega)]; exact h0.2.2.2.2.2.1
  · rw [h _ (by omega)]; exact h0.2.2.2.2.2.2
theorem sc_ok {M : Nat → Nat} (h0 : ok M) : ok (cpA M M 202 202) := ag_ok h0 (fun j hj => sc_lo M hj)
theorem sc_ow (M : Nat → Nat) {k : Nat} (hk : k < 24) : ow (cpA M M 202 202) 202 k = ow M 0 k := by
  show cpA M M 202 202 (202 + 96 + k) = M (0 + 96 + k)
  rw [show 202 + 96 + k = 202 + (96 + k) by omega, sc_hi M (by omega), show 0 + 96 + k = 96 + k by omega]
/-- a division in the copy -/
abbrev F2 (M : Nat → Nat) (A : Nat) : dT := fin (cpA M M 202 202) (ow (cpA M M 202 202) 202) A
abbrev X2 (M M' : Nat → Nat) (A : Nat) : Nat → Nat := dvM (cpA M' M' 202 202) 202 (dO M A) (dT_ M A) (dU M A)
theorem f2_c {M M' : Nat → Nat} {A : Nat} (h0 : ok M) (hM : ∀ j, j < 202 → M' j = M j) (hA0 : 0 < A) (hA : A < 128) (hO : ∀ k, k < 24 → ow M 0 k < 8) : (F2 M' A).2.2.2.1 = dT_ M A ∧ lb (F2 M' A).1 = dL M A ∧ dvM (cpA M' M' 202 202) 202 (gv (F2 M' A).2.2.1 (F2 M' A).2.1 24 (lb (F2 M' A).1)) (F2 M' A).2.2.2.1 (F2 M' A).2.2.2.2 = X2 M M' A := by
  have h0' : ok M' := ag_ok h0 hM
  have hg : ag M (cpA M' M' 202 202) := fun j h1 _ => by rw [sc_lo M' (by omega), hM j (by omega)]
  have c := fin_c (O' := ow (cpA M' M' 202 202) 202) h0 (sc_ok h0') hg hA0 hA hO
  refine ⟨c.2.2.1.symm, by unfold dL; rw [c.1], ?_⟩
  show _ = dvM (cpA M' M' 202 202) 202 (gv (fin M (ow M 0) A).2.2.1 (fin M (ow M 0) A).2.1 24 (lb (fin M (ow M 0) A).1)) (fin M (ow M 0) A).2.2.2.1 (fin M (ow M 0) A).2.2.2.2
  rw [← c.2.2.1, ← c.2.2.2.1]
  exact dvM_c _ _ (fun k hk => (c.2.2.2.2 k hk).symm)
theorem x2_lo (M : Nat → Nat) {M' : Nat → Nat} (A : Nat) (hM : ∀ j, j < 202 → M' j = M j) {j : Nat} (hj : j < 202) : X2 M M' A j = M j := by
  show dvM (cpA M' M' 202 202) 202 (dO M A) (dT_ M A) (dU M A) j = M j
  unfold dvM md; rw [if_neg (by omega), if_neg (by omega), if_neg (by omega), sc_lo M' hj, hM j hj]
theorem x2_ok {M M' : Nat → Nat} {A : Nat} (h0 : ok M) (hM : ∀ j, j < 202 → M' j = M j) : ok (X2 M M' A) := ag_ok h0 (fun j hj => x2_lo M A hM hj)
theorem x2_ag {M M' : Nat → Nat} {A : Nat} (hM : ∀ j, j < 202 → M' j = M j) : ag M (X2 M M' A) := fun j h1 _ => (x2_lo M A hM (by omega)).symm
theorem x2_ow {M M' : Nat → Nat} {A k : Nat} (hk : k < 24) : ow (X2 M M' A) 202 k = dO M A k := dvM_in _ 202 _ _ _ hk
theorem x2_u {M M' : Nat → Nat} {A : Nat} (hM : ∀ j, j < 202 → M' j = M j) : X2 M M' A 402 = M 200 + dU M A := by
  have := dvM_u (cpA M' M' 202 202) 202 (dO M A) (dT_ M A) (dU M A)
  rw [show cpA M' M' 202 202 (202 + 200) = M 200 by rw [sc_hi M' (by omega), hM 200 (by omega)]] at this
  exact this
theorem x2_es {M M' : Nat → Nat} {A B : Nat} (hM : ∀ j, j < 202 → M' j = M j) : es (X2 M M' A) (ow (X2 M M' A) 202) B B = es M (dO M A) B B := (ag_es (x2_ag hM) (fun k hk => (x2_ow hk).symm)).symm
theorem bsf_e {M O : Nat → Nat} (h : ¬ (bsf M O 49).1 = 0) : (bsf M O 49).2 = es M (swO O ((bsf M O 49).1 / 10) ((bsf M O 49).1 % 10)) 127 127 := by
  rcases bsf_i M O 49 with e | ⟨j, h1, h2, h3, h4, h5⟩
  · exact absurd e h
  · rw [h5, h4, show (10 * (j / 7) + j % 7) / 10 = j / 7 by omega, show (10 * (j / 7) + j % 7) % 10 = j % 7 by omega]
theorem sc_tr (M : Nat → Nat) (c d : Nat) {j : Nat} (hj : j < 202) : trA (cpA M M 202 202) 202 c d 24 j = M j := by unfold trA; rw [if_neg (by omega), sc_lo M hj]
theorem sc_es (M : Nat → Nat) (c d : Nat) : es (trA (cpA M M 202 202) 202 c d 24) (ow (trA (cpA M M 202 202) 202 c d 24) 202) 127 127 = es M (swO (ow M 0) c d) 127 127 := (ag_es (fun j h1 _ => (sc_tr M c d (by omega)).symm) (fun k hk => by rw [trA_ow _ 202 c d hk, sc_ow M hk]; rfl)).symm
theorem rm_lt : ∀ c, c < 7 → 0 < rmv 127 c ∧ rmv 127 c < 128 := by decide +kernel
theorem bt_pw : ∀ a, a < 7 → 2 ^ a < 128 := by decide
theorem bW_1 (M : Nat → Nat) : ∀ n, (bW M n).1 ≤ n
  | 0 => Nat.le_refl _
  | n + 1 => by
    show (if wE M (n + 1) < (bW M n).2 then (n + 1, wE M (n + 1)) else bW M n).1 ≤ n + 1
    have := bW_1 M n
    split
    · exact Nat.le_refl _
    · omega
theorem wE_le {M : Nat → Nat} (h : ok M) (c : Nat) : wE M c ≤ 723975 := es_le h
theorem bW_2 {M : Nat → Nat} (h : ok M) : ∀ n, (bW M n).2 ≤ 723975
  | 0 => wE_le h 0
  | n + 1 => by
    show (if wE M (n + 1) < (bW M n).2 then (n + 1, wE M (n + 1)) else bW M n).2 ≤ 723975
    have := bW_2 h n
    have h2 := wE_le h (n + 1)
    split
    · exact h2
    · omega
def bwI (M : Nat → Nat) (i : Nat) : Int32 := if i = 0 then -5 else nI (bW M (i - 1)).1
def bwS (M : Nat → Nat) (i : Nat) : Nat := if i = 0 then 0 else (bW M (i - 1)).2
theorem bwI_5 {M : Nat → Nat} {i : Nat} (hi : i < 10) : bwI M i = -5 ↔ i = 0 := by
  unfold bwI; split
  · exact ⟨fun _ => by assumption, fun _ => rfl⟩
  · have := bW_1 M (i - 1)
    exact ⟨fun e => absurd e (nI_n5 (by omega)), fun e => absurd e (by assumption)⟩
theorem bw_0 (M : Nat → Nat) {i : Nat} (h : i = 0) : bwI M (i + 1) = nI i ∧ bwS M (i + 1) = wE M i := by subst h; exact ⟨rfl, rfl⟩
theorem bw_y {M : Nat → Nat} {i : Nat} (h : ¬ i = 0) (hl : wE M i < bwS M i) : bwI M (i + 1) = nI i ∧ bwS M (i + 1) = wE M i := by
  obtain ⟨k, rfl⟩ : ∃ k, i = k + 1 := ⟨i - 1, by omega⟩
  have hl2 : wE M (k + 1) < (bW M k).2 := hl
  have e : bW M (k + 1) = (k + 1, wE M (k + 1)) := if_pos hl2
  exact ⟨by show nI (bW M (k + 1)).1 = nI (k + 1); rw [e], by show (bW M (k + 1)).2 = wE M (k + 1); rw [e]⟩
theorem bw_n {M : Nat → Nat} {i : Nat} (h : ¬ i = 0) (hl : ¬ wE M i < bwS M i) : bwI M (i + 1) = bwI M i ∧ bwS M (i + 1) = bwS M i := by
  obtain ⟨k, rfl⟩ : ∃ k, i = k + 1 := ⟨i - 1, by omega⟩
  have hl2 : ¬ wE M (k + 1) < (bW M k).2 := hl
  have e : bW M (k + 1) = bW M k := if_neg hl2
  exact ⟨by show nI (bW M (k + 1)).1 = nI (bW M k).1; rw [e], by show (bW M (k + 1)).2 = (bW M k).2; rw [e]⟩
theorem bwS_le {M : Nat → Nat} (h : ok M) (i : Nat) : bwS M i ≤ 723975 := by
  unfold bwS; split
  · omega
  · exact bW_2 h _
def rcB (kn : Nat) (B : Nat → Nat → Nat) : Nat → Nat → Nat := if kn = 4 then rB B else B
def rcR (kn : Nat) (R : Nat → Nat → Nat) (M : Nat → Nat) : Nat → Nat → Nat := if kn = 4 then rU (rB R) 3 M else rU R kn M
