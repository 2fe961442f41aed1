/-! the calls: what each answers, what it leaves -/
def nn (x : Int32) : Nat := x.toNatClampNeg
theorem nn_n {a : Nat} (h : a < 2147483648) : nn (nI a) = a := nI_clamp h
abbrev cG : Type := Int32 ⊕ (Nat × Nat)
def chA (M : Nat → Nat) (o : cG) : Int32 := match o with
  | .inl e => e
  | .inr q => if M q.1 = q.2 then -5 else nI (M q.1)
def chM (M : Nat → Nat) (o : cG) : Nat → Nat := match o with
  | .inl _ => M
  | .inr q => if M q.1 = q.2 then M else va_up M q.1 q.2
def chP (M P : Nat → Nat) (kn : Nat) (o : cG) : Nat → Nat := match o with
  | .inl _ => P
  | .inr q => if M q.1 = q.2 then P else pushP P M kn
def chK (M : Nat → Nat) (kn : Nat) (o : cG) : Nat := match o with
  | .inl _ => kn
  | .inr q => if M q.1 = q.2 then kn else pushK kn
def chQ (M P : Nat → Nat) (kn : Nat) (o : cG) (r : Int32) (M1 P1 : Nat → Nat) (k1 : Nat) : Prop := r = chA M o ∧ M1 = chM M o ∧ P1 = chP M P kn o ∧ k1 = chK M kn o
theorem chQ_l (M P : Nat → Nat) (kn : Nat) (e : Int32) : chQ M P kn (.inl e) e M P kn := ⟨rfl, rfl, rfl, rfl⟩
theorem chQ_e {M P : Nat → Nat} {kn a t : Nat} (h : M a = t) : chQ M P kn (.inr (a, t)) (-5) M P kn := ⟨(if_pos h).symm, (if_pos h).symm, (if_pos h).symm, (if_pos h).symm⟩
theorem chQ_n {M P : Nat → Nat} {kn a t : Nat} (h : ¬ M a = t) : chQ M P kn (.inr (a, t)) (nI (M a)) (va_up M a t) (pushP P M kn) (pushK kn) := ⟨(if_neg h).symm, (if_neg h).symm, (if_neg h).symm, (if_neg h).symm⟩
def pPlant (x y z : Int32) : cG := if rg x 23 ∧ rg y 3 then (if rg z 9 then .inr (0 + 4 * nn x + nn y, nn z) else .inl (-2)) else .inl (-1)
def pWeigh (x y z : Int32) : cG := if rg x 6 ∧ rg y 3 then (if rg z 9 then .inr (120 + 4 * nn x + nn y, nn z) else .inl (-2)) else .inl (-1)
def pGrudge (x y z : Int32) : cG := if rg x 6 ∧ rg y 6 then (if ¬ x = y ∧ rg z 9 then .inr (148 + 7 * nn x + nn y, nn z) else .inl (-2)) else .inl (-1)
def pSet (x y : Int32) : cG := if rg x 1 then (if (x = 0 ∧ rg y 1) ∨ (¬ x = 0 ∧ (¬ (y < nI 1) ∧ ¬ (nI 10 < y))) then .inr (197 + nn x, nn y) else .inl (-2)) else .inl (-1)
def pGive (x y : Int32) : cG := if rg x 23 ∧ rg y 7 then .inr (96 + nn x, nn y) else .inl (-1)
