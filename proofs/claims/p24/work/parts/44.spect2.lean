/-! the class's reading of orders -/
theorem dE_f1 {T : Nat → Nat} {L j m : Nat} (h : ¬ isS T L j 61) : dE T L j m = (false, j) := if_neg h
theorem dE_f2 {T : Nat → Nat} {L j m : Nat} (h : isS T L j 61) (h2 : ¬ dc T L m (j + 1) = m) : dE T L j m = (false, j + 1 + dc T L m (j + 1)) := by unfold dE; rw [if_pos h, if_neg h2]
theorem dE_t2 {T : Nat → Nat} {L j m : Nat} (h : isS T L j 61) (h2 : dc T L m (j + 1) = m) : dE T L j m = (true, j + m + 1) := by unfold dE; rw [if_pos h, if_pos h2]
theorem oE_p0 {T : Nat → Nat} {L i : Nat} (hs : isS T L i 112) (h : ¬ (pE T L (i + 1)).1 = true) : oE T L i = (false, (pE T L (i + 1)).2) := by
  unfold oE; rw [if_pos hs, if_neg h]
  have e : (pE T L (i + 1)).1 = false := by
    cases hh : (pE T L (i + 1)).1
    · rfl
    · exact absurd hh h
  rw [← e]
theorem oE_p1 {T : Nat → Nat} {L i : Nat} (hs : isS T L i 112) (h : (pE T L (i + 1)).1 = true) : oE T L i = dE T L (pE T L (i + 1)).2 4 := by unfold oE; rw [if_pos hs, if_pos h]
theorem oE_w0 {T : Nat → Nat} {L i : Nat} (hs : isS T L i 119) (h : ¬ rdk T L (i + 1) 0 7) : oE T L i = (false, i + 1) := by
  unfold oE; rw [if_neg (isS_n hs (by decide)), if_pos hs, if_neg (fun q => h ⟨by omega, Nat.zero_le _, by omega⟩)]
theorem oE_w1 {T : Nat → Nat} {L i : Nat} (hs : isS T L i 119) (h : rdk T L (i + 1) 0 7) : oE T L i = dE T L (i + 2) 4 := by
  unfold oE; rw [if_neg (isS_n hs (by decide)), if_pos hs, if_pos (by have := h.2.2; omega)]
theorem oE_g0 {T : Nat → Nat} {L i : Nat} (hs : isS T L i 103) (h : ¬ rdk T L (i + 1) 0 7) : oE T L i = (false, i + 1) := by
  unfold oE; rw [if_neg (isS_n hs (by decide)), if_neg (isS_n hs (by decide)), if_pos hs, if_neg (fun q => h ⟨by omega, Nat.zero_le _, by omega⟩)]
abbrev oth (T : Nat → Nat) (L i f : Nat) : Prop := dgt T L i ≤ 6 ∧ ¬ dgt T L i = f
theorem oE_g1 {T : Nat → Nat} {L i : Nat} (hs : isS T L i 103) (h : rdk T L (i + 1) 0 7) (h2 : ¬ oth T L (i + 2) (dgt T L (i + 1))) : oE T L i = (false, i + 2) := by
  unfold oE; rw [if_neg (isS_n hs (by decide)), if_neg (isS_n hs (by decide)), if_pos hs, if_pos (by have := h.2.2; omega), if_neg h2]
theorem oE_g2 {T : Nat → Nat} {L i : Nat} (hs : isS T L i 103) (h : rdk T L (i + 1) 0 7) (h2 : oth T L (i + 2) (dgt T L (i + 1))) : oE T L i = dE T L (i + 3) 1 := by
  unfold oE; rw [if_neg (isS_n hs (by decide)), if_neg (isS_n hs (by decide)), if_pos hs, if_pos (by have := h.2.2; omega), if_pos h2]
theorem oE_d0 {T : Nat → Nat} {L i : Nat} (hs : isS T L i 100) (h : cc T L 7 (i + 1) 0 = 0) : oE T L i = (false, i + 1) := by
  unfold oE; rw [if_neg (isS_n hs (by decide)), if_neg (isS_n hs (by decide)), if_neg (isS_n hs (by decide)), if_pos hs]; exact if_pos h
theorem oE_d1 {T : Nat → Nat} {L i : Nat} (hs : isS T L i 100) (h : ¬ cc T L 7 (i + 1) 0 = 0) : oE T L i = (true, i + 1 + cc T L 7 (i + 1) 0) := by
  unfold oE; rw [if_neg (isS_n hs (by decide)), if_neg (isS_n hs (by decide)), if_neg (isS_n hs (by decide)), if_pos hs]; exact if_neg h
theorem oE_n {T : Nat → Nat} {L i : Nat} (h1 : ¬ isS T L i 112) (h2 : ¬ isS T L i 119) (h3 : ¬ isS T L i 103) (h4 : ¬ isS T L i 100) : oE T L i = (false, i) := by
  unfold oE; rw [if_neg h1, if_neg h2, if_neg h3, if_neg h4]
/-- what the fields tell of the order at i -/
def ordF (T : Nat → Nat) (L i kd : Nat) (fi se : Int32) (pa : Nat) (DG : Nat → Nat) : Prop :=
  (isS T L i 112 ∧ kd = 0 ∧ fi = nI (pN T L (i + 1)) ∧ ∀ k, k < 4 → DG k = dgt T L ((oE T L i).2 - 4 + k))
  ∨ (isS T L i 119 ∧ kd = 1 ∧ fi = nI (dgt T L (i + 1)) ∧ ∀ k, k < 4 → DG k = dgt T L ((oE T L i).2 - 4 + k))
  ∨ (isS T L i 103 ∧ kd = 2 ∧ fi = nI (dgt T L (i + 1)) ∧ se = nI (dgt T L (i + 2)) ∧ DG 0 = dgt T L ((oE T L i).2 - 1))
  ∨ (isS T L i 100 ∧ kd = 3 ∧ pa = pq T L (i + 1) ((oE T L i).2 - (i + 1)))
theorem dgX {T DG : Nat → Nat} {L j i m : Nat} (e : oE T L i = (true, j + m + 1)) (hd : dc T L m (j + 1) = m) : ∀ k, k < m → cpA DG (dgF T L (j + 1)) 0 (dc T L m (j + 1)) k = dgt T L ((oE T L i).2 - m + k) := fun k hk => by
  rw [e, hd]
  unfold cpA; rw [if_pos (by omega)]
  show dgt T L (j + 1 + (k - 0)) = dgt T L (j + m + 1 - m + k)
  congr 1; omega
theorem rdk_o {T : Nat → Nat} {L i f : Nat} (h : rdk T L i 0 f) (hf : f ≤ 6) : oth T L i f := ⟨by have := h.2.2; omega, by have := h.2.2; omega⟩
theorem rdk_p {T : Nat → Nat} {L i f : Nat} (h : rdk T L i (f + 1) 7) : oth T L i f := ⟨by have := h.2.2; omega, by have := h.2.1; omega⟩
theorem rdk_q {T : Nat → Nat} {L i f : Nat} (h : ¬ rdk T L i 0 f) (h2 : ¬ rdk T L i (f + 1) 7) : ¬ oth T L i f := fun q => by
  have q1 : dgt T L i ≤ 6 := q.1
  have q2 : ¬ dgt T L i = f := q.2
  rcases Nat.lt_or_ge (dgt T L i) f with z | z
  · exact h ⟨by omega, Nat.zero_le _, z⟩
  · exact h2 ⟨by omega, by omega, by omega⟩
theorem rdk_10 {T : Nat → Nat} {L i : Nat} (h : ¬ rdk T L i 0 10) : dgt T L i = 10 := by
  have hd := dgt_le T L i
  rcases Nat.decEq (dgt T L i) 10 with q | q
  · exact absurd ⟨q, Nat.zero_le _, by omega⟩ h
  · exact q
theorem rdk_7 {T : Nat → Nat} {L i l : Nat} (h : ¬ rdk T L i l 7) : ¬ (l ≤ dgt T L i ∧ dgt T L i < 7) := fun q => h ⟨by omega, q.1, q.2⟩
/-- behind the whole text: the place, and how many orders -/
def fP (r : Bool × Nat) (ln : Nat) : Nat := if r.1 = true then ln else r.2
def fN (r : Bool × Nat) : Nat := if r.1 = true then r.2 else 0
