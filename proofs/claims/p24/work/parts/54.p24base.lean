/-! what the law of this claim stands on -/
theorem nI_self (x : Int32) : x = nI x.toBitVec.toNat := Int32.toBitVec_inj.mp (by
  show x.toBitVec = BitVec.ofNat 32 x.toBitVec.toNat
  simp)
theorem nI_and31 (x : Int32) : ∃ a, a < 32 ∧ x &&& nI 31 = nI a := ⟨x.toBitVec.toNat &&& 31, by have := @Nat.and_le_right x.toBitVec.toNat 31; omega, (congrArg (fun z => z &&& nI 31) (nI_self x)).trans (nI_land _ _)⟩
theorem pushK_le {kn : Nat} (hk : kn ≤ 4) : pushK kn ≤ 4 := by unfold pushK; split <;> omega
section LAWS
variable {M P Q T Sn DO DO' m1 m2 p2 : Nat → Nat} {B R b1 r1 : Nat → Nat → Nat} {kn ik ln k1 k2 : Nat} {r r' : Int32}
def okG (o : cG) : Prop := match o with
  | .inl _ => True
  | .inr q => (q.1 < 96 → q.2 < 10) ∧ (96 ≤ q.1 → q.1 < 120 → q.2 < 8) ∧ (120 ≤ q.1 → q.1 < 197 → q.2 < 10) ∧ (q.1 = 197 → q.2 < 2) ∧ (q.1 = 198 → 0 < q.2 ∧ q.2 < 11)
theorem ok_ch (h0 : ok M) {o : cG} (h : okG o) : ok (chM M o) := by
  cases o with
  | inl e => exact h0
  | inr q =>
    show ok (if M q.1 = q.2 then M else va_up M q.1 q.2)
    split
    · exact h0
    · exact ok_va h0 h.1 h.2.1 h.2.2.1 h.2.2.2.1 h.2.2.2.2
theorem okG_plant (x y z : Int32) : okG (pPlant x y z) := by
  unfold pPlant; split
  · next h =>
    split
    · next h2 =>
      obtain ⟨a, ha, rfl⟩ := rg_of h.1 (by decide)
      obtain ⟨b, hb, rfl⟩ := rg_of h.2 (by decide)
      obtain ⟨d, hd, rfl⟩ := rg_of h2 (by decide)
      rw [nn_n (by omega), nn_n (by omega), nn_n (by omega)]
      exact ⟨fun _ => by dsimp only; omega, fun q => by dsimp only at q ⊢; omega, fun q => by dsimp only at q ⊢; omega, fun q => by dsimp only at q ⊢; omega, fun q => by dsimp only at q ⊢; omega⟩
    · exact trivial
  · exact trivial
theorem okG_weigh (x y z : Int32) : okG (pWeigh x y z) := by
  unfold pWeigh; split
  · next h =>
    split
    · next h2 =>
      obtain ⟨a, ha, rfl⟩ := rg_of h.1 (by decide)
      obtain ⟨b, hb, rfl⟩ := rg_of h.2 (by decide)
      obtain ⟨d, hd, rfl⟩ := rg_of h2 (by decide)
      rw [nn_n (by omega), nn_n (by omega), nn_n (by omega)]
      exact ⟨fun q => by dsimp only at q ⊢; omega, fun q => by dsimp only at q ⊢; omega, fun q => by dsimp only at q ⊢; omega, fun q => by dsimp only at q ⊢; omega, fun q => by dsimp only at q ⊢; omega⟩
    · exact trivial
  · exact trivial
theorem okG_grudge (x y z : Int32) : okG (pGrudge x y z) := by
  unfold pGrudge; split
  · next h =>
    split
    · next h2 =>
      obtain ⟨a, ha, rfl⟩ := rg_of h.1 (by decide)
      obtain ⟨b, hb, rfl⟩ := rg_of h.2 (by decide)
      obtain ⟨d, hd, rfl⟩ := rg_of h2.2 (by decide)
      rw [nn_n (by omega), nn_n (by omega), nn_n (by omega)]
      exact ⟨fun q => by dsimp only at q ⊢; omega, fun q => by dsimp only at q ⊢; omega, fun q => by dsimp only at q ⊢; omega, fun q => by dsimp only at q ⊢; omega, fun q => by dsimp only at q ⊢; omega⟩
    · exact trivial
  · exact trivial
theorem okG_give (x y : Int32) : okG (pGive x y) := by
  unfold pGive; split
  · next h =>
    obtain ⟨a, ha, rfl⟩ := rg_of h.1 (by decide)
    obtain ⟨b, hb, rfl⟩ := rg_of h.2 (by decide)
    rw [nn_n (by omega), nn_n (by omega)]
    exact ⟨fun q => by dsimp only at q ⊢; omega, fun q => by dsimp only at q ⊢; omega, fun q => by dsimp only at q ⊢; omega, fun q => by dsimp only at q ⊢; omega, fun q => by dsimp only at q ⊢; omega⟩
  · exact trivial
theorem okG_set (x y : Int32) : okG (pSet x y) := by
  unfold pSet; split
  · next h =>
    split
    · next h2 =>
      obtain ⟨a, ha, rfl⟩ := rg_of h (by decide)
      rcases h2 with ⟨e, h2⟩ | ⟨e, h2⟩
      · obtain ⟨b, hb, rfl⟩ := rg_of h2 (by decide)
        have e2 : a = 0 := (nI_e0 (by omega)).mp e
        rw [nn_n (by omega), nn_n (by omega)]
        exact ⟨fun q => by dsimp only at q ⊢; omega, fun q => by dsimp only at q ⊢; omega, fun q => by dsimp only at q ⊢; omega, fun q => by dsimp only at q ⊢; omega, fun q => by dsimp only at q ⊢; omega⟩
      · obtain ⟨b, hb, rfl⟩ := set_n (x := nI a) (Or.inr ⟨e, h2⟩)
        have e2 : ¬ a = 0 := fun z => e ((nI_e0 (by omega)).mpr z)
        have e3 : 1 ≤ b := by
          rcases Nat.eq_zero_or_pos b with z | z
          · subst z; exact absurd (by decide : nI 0 < nI 1) h2.1
          · exact z
        rw [nn_n (by omega), nn_n (by omega)]
        exact ⟨fun q => by dsimp only at q ⊢; omega, fun q => by dsimp only at q ⊢; omega, fun q => by dsimp only at q ⊢; omega, fun q => by dsimp only at q ⊢; omega, fun q => by dsimp only at q ⊢; omega⟩
    · exact trivial
  · exact trivial
end LAWS
section RWL
variable {p : Program} {l : Launch} {e : Env} {R : Room} {s : State} {m : MethodId} {args : Array Value} {below : List Frame} {meth : Method} {c : Code} {H : Heap} {locs : List Loc} {cells slots : Nat} {Q : State → Prop}
variable {cc : ByteArray} {pc : Nat} {ls : Array Slot} {rest : List Value}
theorem nr_sld (hx : p.tables.exec = Jvm.exec) (hb : c.code = cc) {b L : Nat} {xs : Nat → Int32} {A : Nat → Prop} (hX : va_X b L xs s s.heap) (hbl : b < s.heap.size) (hbA : ¬ A b) (hS : va_S A s.heap H locs) {j : Nat} (hj : j < L) (hL : L ≤ 2048) (hdg : decode cc pc = .ok (.iaload, 1))
    (kk : W p l e R s m args below meth c H locs cells slots Q (F0 m (pc + 1) ls (.int (xs j) :: rest))) : W p l e R s m args below meth c H locs cells slots Q (F0 m pc ls (.int (nI j) :: .ref b :: rest)) :=
  va_sld hx hb hX hbl hbA hS (vp_in_nI hj (by omega)) hdg (by rw [nI_clamp (by omega)]; exact kk)
theorem nr_slen (hx : p.tables.exec = Jvm.exec) (hb : c.code = cc) {b L : Nat} {xs : Nat → Int32} {A : Nat → Prop} (hX : va_X b L xs s s.heap) (hbl : b < s.heap.size) (hbA : ¬ A b) (hS : va_S A s.heap H locs) (hdg : decode cc pc = .ok (.arraylength, 1))
    (kk : W p l e R s m args below meth c H locs cells slots Q (F0 m (pc + 1) ls (.int (nI L) :: rest))) : W p l e R s m args below meth c H locs cells slots Q (F0 m pc ls (.ref b :: rest)) := va_slen hx hb hX hbl hbA hS hdg kk
end RWL

/-! the object -/
abbrev q_HP : Type := Nat → (Nat → Nat → Nat) → Prop
def q_hT : q_HP := fun _ _ => True
def q_hE : q_HP := fun kn _ => kn = 0
def q_hM (M : Nat → Nat) : q_HP := fun kn R => 0 < kn ∧ R (kn - 1) = M
/-- a state within bounds -/
def q_iv (n : Nat) (M : Nat → Nat) : Prop := ok M ∧ M 200 ≤ M 199 ∧ M 199 ≤ n ∧ M 201 ≤ n ∧ ∀ c, c < 7 → gr M c c = 0
theorem q_iv_le {n n' : Nat} {M : Nat → Nat} (h : q_iv n M) (hn : n ≤ n') : q_iv n' M := ⟨h.1, h.2.1, Nat.le_trans h.2.2.1 hn, Nat.le_trans h.2.2.2.1 hn, h.2.2.2.2⟩
def q_OI (n : Nat) (M : Nat → Nat) (hp : q_HP) (kn : Nat) (R : Nat → Nat → Nat) (T DO : Nat → Nat) : Prop := ok M ∧ kn ≤ 4 ∧ (∀ k, k < kn → q_iv n (R k)) ∧ dOk DO ∧ (∀ j, j < 60 → T j < 65536) ∧ hp kn R
theorem q_rc {P : (Nat → Nat) → Prop} {M : Nat → Nat} {R : Nat → Nat → Nat} {kn : Nat} (h0 : P M) (hk : kn ≤ 4) (h : ∀ j, j < kn → P (R j)) : ∀ j, j < pushK kn → P (rcR kn R M j) := by
  by_cases q : kn = 4
  · subst q
    intro j hj
    have hj4 : j < 4 := hj
    by_cases q3 : j = 3
    · subst q3; exact h0
    · have e : rcR 4 R M j = R (j + 1) := by
        show (if j = 3 then M else R ((j + 1) % 4)) = R (j + 1)
        rw [if_neg q3, Nat.mod_eq_of_lt (by omega)]
      rw [e]; exact h _ (by omega)
  · intro j hj
    have hj4 : j < kn + 1 := by unfold pushK at hj; rw [if_neg q] at hj; exact hj
    have er : rcR kn R M = rU R kn M := if_neg q
    rw [er]
    by_cases q3 : j = kn
    · subst q3
      have e : rU R j M j = M := if_pos rfl
      rw [e]; exact h0
    · have e : rU R kn M j = R j := if_neg q3
      rw [e]; exact h _ (by omega)
theorem q_top {M : Nat → Nat} {R : Nat → Nat → Nat} {kn : Nat} : q_hM M (pushK kn) (rcR kn R M) := by
  by_cases q : kn = 4
  · subst q; exact ⟨by decide, rfl⟩
  · have er : rcR kn R M = rU R kn M := if_neg q
    have ek : pushK kn = kn + 1 := by unfold pushK; rw [if_neg q]
    rw [er, ek]; exact ⟨Nat.succ_pos _, if_pos rfl⟩
section QOI
variable {n kn k1 : Nat} {M m1 T DO DO' : Nat → Nat} {hp : q_HP} {B R b1 r1 : Nat → Nat → Nat} {C : Prop}
theorem q_keep (hI : q_OI n M hp kn R T DO) (h : hQ kn B R M C b1 r1 k1) (hn : ¬ C) (hd : dOk DO') : q_OI n M hp k1 r1 T DO' := by
  rcases h with ⟨c, -, -, -⟩ | ⟨-, -, e2, e3⟩
  · exact absurd c hn
  · subst e2; subst e3; exact ⟨hI.1, hI.2.1, hI.2.2.1, hd, hI.2.2.2.2⟩
theorem q_push (hI : q_OI n M hp kn R T DO) (hv : q_iv n M) (hm : ok m1) (h : hQ kn B R M C b1 r1 k1) (hc : C) (hd : dOk DO') : q_OI n m1 (q_hM M) k1 r1 T DO' := by
  rcases h with ⟨-, -, e2, e3⟩ | ⟨c, -, -, -⟩
  · subst e2; subst e3; exact ⟨hm, pushK_le hI.2.1, q_rc hv hI.2.1 hI.2.2.1, hd, hI.2.2.2.2.1, q_top⟩
  · exact absurd hc c
theorem q_chg (hI : q_OI n M hp kn R T DO) (hv : q_iv n M) (hm : ok m1) (h : hQ kn B R M C b1 r1 k1) : q_OI n m1 q_hT k1 r1 T DO := by
  rcases h with ⟨-, -, e2, e3⟩ | ⟨-, -, e2, e3⟩
  · subst e2; subst e3; exact ⟨hm, pushK_le hI.2.1, q_rc hv hI.2.1 hI.2.2.1, hI.2.2.2.1, hI.2.2.2.2.1, trivial⟩
  · subst e2; subst e3; exact ⟨hm, hI.2.1, hI.2.2.1, hI.2.2.2.1, hI.2.2.2.2.1, trivial⟩
end QOI
theorem pty_nI {A : Nat} (h0 : 0 < A) (h : A < 128) : pty (nI A) := ⟨nI_nlt (by omega) (by omega), nI_nlt (by omega) (by omega)⟩
theorem tM_ok {M : Nat → Nat} (h : ok M) {a b : Nat} (ha : a < 7) (hb : b < 7) : ok (tM M a b) := ok_up (trA_ok h (Or.inl rfl) (by omega) (by omega)) (by decide)
theorem oE_0 (T : Nat → Nat) : oE T 0 0 = (false, 0) := by
  unfold oE
  rw [if_neg (fun q => absurd q.1 (Nat.lt_irrefl 0)), if_neg (fun q => absurd q.1 (Nat.lt_irrefl 0)), if_neg (fun q => absurd q.1 (Nat.lt_irrefl 0)), if_neg (fun q => absurd q.1 (Nat.lt_irrefl 0))]
theorem fT_0 (T : Nat → Nat) : fT T 0 = (false, 0) := by
  have h : fT T 0 = ft T 0 (59 + 1) 0 0 := rfl
  rw [h]; unfold ft; rw [oE_0, if_neg (by decide)]
theorem fT_n (T : Nat → Nat) : ¬ (fT T 0).1 = true := by rw [fT_0]; decide
theorem fT_2 (T : Nat → Nat) : (fT T 0).2 = 0 := by rw [fT_0]
theorem nI_m100 : (-100 : Int32) - nI 0 = -100 := by decide
theorem aTotal_k {M : Nat → Nat} {kn : Nat} {x : Int32} (h9 : ¬ x = nI 9) : aTotal M kn 0 x = aTotal M 0 0 x := by
  unfold aTotal
  by_cases h : rg x 10
  · rw [if_pos h, if_pos h]
    obtain ⟨a, ha, rfl⟩ := rg_of h (by decide)
    rw [nn_n (by omega)]
    have h9 : ¬ a = 9 := fun q => h9 (by rw [q])
    rw [if_neg (show ¬ a = 9 from h9), if_neg (show ¬ a = 9 from h9)]
  · rw [if_neg h, if_neg h]
