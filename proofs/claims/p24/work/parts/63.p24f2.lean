/-! more small facts for the law's walks -/
theorem wf_0 (M : Nat → Nat) (c : Nat) : sm (fun j => wr M c j) 24 = wf M c 0 := sm_c (f := fun j => wr M c j) (g := fun i => wr M c (0 + i)) (fun k _ => by
  show wr M c k = wr M c (0 + k)
  rw [Nat.zero_add])
