/-! reading a text -/
def sgI (T : Nat → Nat) (L i : Nat) : Int32 := if i < L then nI (T i) else -1
abbrev isS (T : Nat → Nat) (L i ch : Nat) : Prop := i < L ∧ T i = ch
def dgt (T : Nat → Nat) (L i : Nat) : Nat := if i < L ∧ 48 ≤ T i ∧ T i ≤ 57 then T i - 48 else 10
def dgI (d : Nat) : Int32 := if d = 10 then -1 else nI d
theorem dgt_le (T : Nat → Nat) (L i : Nat) : dgt T L i ≤ 10 := by unfold dgt; split <;> omega
theorem dgI_p {d : Nat} (h : ¬ d = 10) : dgI d = nI d := if_neg h
theorem dgI_nn {d : Nat} (hd : d ≤ 10) : 0 ≤ dgI d ↔ ¬ d = 10 := by
  unfold dgI; split
  · exact ⟨fun h => absurd h (by decide), fun h => absurd (by assumption) h⟩
  · exact ⟨fun _ => by assumption, fun _ => nI_pos' (by omega)⟩
theorem rg_dg {d n : Nat} (hd : d ≤ 10) (hn : n < 10) : rg (dgI d) n ↔ d ≤ n := by
  by_cases h : d = 10
  · subst h; exact ⟨fun q => absurd (by decide : dgI 10 < nI 0) q.1, fun q => by omega⟩
  · rw [dgI_p h]; exact rg_n (by omega) (by omega)
theorem sgI_e {T : Nat → Nat} {L i ch : Nat} (hT : ∀ j, j < L → T j < 65536) (hc : ch < 65536) : sgI T L i = nI ch ↔ isS T L i ch := by
  unfold sgI; split
  · next h => have := hT i h; rw [nI_eq (by omega) (by omega)]; exact ⟨fun e => ⟨h, e⟩, fun e => e.2⟩
  · next h => exact ⟨fun e => absurd e.symm (by intro q; have := nI_pos' (show ch < 2 ^ 31 by omega); rw [q] at this; exact absurd this (by decide)), fun e => absurd e.1 h⟩
theorem sg_dg {T : Nat → Nat} {L i : Nat} (hT : ∀ j, j < L → T j < 65536) : (¬ (sgI T L i < nI 48) ∧ ¬ (nI 57 < sgI T L i)) ↔ ¬ dgt T L i = 10 := by
  unfold sgI dgt
  by_cases h : i < L
  · have := hT i h
    rw [if_pos h, nI_ltI (by omega) (by omega), nI_ltI (by omega) (by omega)]
    split <;> omega
  · rw [if_neg h, if_neg (fun q => h q.1)]
    exact ⟨fun q => absurd (by decide : (-1 : Int32) < nI 48) q.1, fun q => absurd rfl q⟩
theorem dg_a {T : Nat → Nat} {L i : Nat} (hT : ∀ j, j < L → T j < 65536) (h : ¬ (sgI T L i < nI 48) ∧ ¬ (nI 57 < sgI T L i)) : sgI T L i - nI 48 = dgI (dgt T L i) := by
  have h2 := (sg_dg hT).mp h
  rw [dgI_p h2]
  unfold dgt at h2 ⊢
  split at h2
  · next q => rw [if_pos q]; unfold sgI; rw [if_pos q.1, pk_sub q.2.1]
  · exact absurd rfl h2
theorem dg_b {T : Nat → Nat} {L i : Nat} (hT : ∀ j, j < L → T j < 65536) (h : ¬ (¬ (sgI T L i < nI 48) ∧ ¬ (nI 57 < sgI T L i))) : (-1 : Int32) = dgI (dgt T L i) := by
  have h2 : dgt T L i = 10 := by rcases Nat.decEq (dgt T L i) 10 with q | q; exact absurd ((sg_dg hT).mpr q) h; exact q
  rw [h2]; rfl
/-- an end, or a fault: -1 minus its place -/
def er (r : Bool × Nat) : Int32 := if r.1 = true then nI r.2 else -1 - nI r.2
theorem er_f (f : Nat) : er (false, f) = -1 - nI f := rfl
theorem er_t (f : Nat) : er (true, f) = nI f := rfl
theorem er_f1 (f k : Nat) : (-1 : Int32) - nI f - nI k = er (false, f + k) := by
  rw [er_f, ← nI_add, Int32.sub_sub]
theorem er_f2 (f : Nat) : (-2 : Int32) - nI f = er (false, f + 1) := by
  rw [er_f, ← nI_add]
  rw [show (-2 : Int32) = -1 - nI 1 from by decide, Int32.sub_sub, Int32.add_comm (nI 1) (nI f)]
theorem er_f3 (f : Nat) : (-3 : Int32) - nI f = er (false, f + 2) := by
  rw [er_f, ← nI_add]
  rw [show (-3 : Int32) = -1 - nI 2 from by decide, Int32.sub_sub, Int32.add_comm (nI 2) (nI f)]
theorem er_nn {r : Bool × Nat} (h : r.2 < 1000000) : 0 ≤ er r ↔ r.1 = true := by
  obtain ⟨b, n⟩ := r
  cases b
  · rw [er_f]
    refine ⟨fun q => ?_, fun q => by cases q⟩
    exfalso
    rw [show (-1 : Int32) = nI 0 - nI 1 from by decide, Int32.sub_sub, nI_add] at q
    exact absurd q (by rw [Int32.le_iff_toInt_le, pk_sub_toInt (by omega) (by dsimp only at h; omega), Int32.toInt_zero]; omega)
  · rw [er_t]; exact ⟨fun _ => rfl, fun _ => nI_pos' (by dsimp only at h; omega)⟩
/-- digits that follow one another from j on, m at most -/
def dc (T : Nat → Nat) (L : Nat) : Nat → Nat → Nat
  | 0, _ => 0
  | m + 1, j => if dgt T L j = 10 then 0 else dc T L m (j + 1) + 1
theorem dc_le (T : Nat → Nat) (L : Nat) : ∀ (m j : Nat), dc T L m j ≤ m
  | 0, _ => Nat.le_refl _
  | m + 1, j => by
    show (if dgt T L j = 10 then 0 else dc T L m (j + 1) + 1) ≤ m + 1
    have := dc_le T L m (j + 1)
    split <;> omega
theorem dc_0 {T : Nat → Nat} {L j : Nat} (h : dgt T L j = 10) : ∀ (m : Nat), dc T L m j = 0
  | 0 => rfl
  | m + 1 => if_pos h
theorem dc_s {T : Nat → Nat} {L j m : Nat} (h : ¬ dgt T L j = 10) (hm : 0 < m) : dc T L m j = dc T L (m - 1) (j + 1) + 1 := by
  obtain ⟨k, rfl⟩ : ∃ k, m = k + 1 := ⟨m - 1, by omega⟩
  exact if_neg h
/-- the digits before the m-th are digits -/
theorem dc_all {T : Nat → Nat} {L : Nat} : ∀ {m j : Nat}, dc T L m j = m → ∀ x, x < m → ¬ dgt T L (j + x) = 10
  | 0, _, _, x, hx => by omega
  | m + 1, j, h, x, hx => by
    have h : (if dgt T L j = 10 then 0 else dc T L m (j + 1) + 1) = m + 1 := h
    split at h
    · omega
    · next hd =>
      rcases Nat.eq_zero_or_pos x with rfl | q
      · exact hd
      · have := dc_all (T := T) (L := L) (m := m) (j := j + 1) (by omega) (x - 1) (by omega)
        rwa [show j + 1 + (x - 1) = j + x by omega] at this
/-- "=" and m digits at i -/
def dE (T : Nat → Nat) (L i m : Nat) : Bool × Nat := if isS T L i 61 then (if dc T L m (i + 1) = m then (true, i + m + 1) else (false, i + 1 + dc T L m (i + 1))) else (false, i)
def pE (T : Nat → Nat) (L i : Nat) : Bool × Nat := if dgt T L i = 10 then (false, i) else if (dgt T L i = 1 ∧ ¬ dgt T L (i + 1) = 10) ∨ (dgt T L i = 2 ∧ dgt T L (i + 1) ≤ 3) then (true, i + 2) else (true, i + 1)
/-- cousins that follow one another, each greater than the one ahead of it -/
def cc (T : Nat → Nat) (L : Nat) : Nat → Nat → Nat → Nat
  | 0, _, _ => 0
  | f + 1, j, l => if l ≤ dgt T L j ∧ dgt T L j < 7 then cc T L f (j + 1) (dgt T L j + 1) + 1 else 0
theorem cc_0 {T : Nat → Nat} {L j l : Nat} (h : ¬ (l ≤ dgt T L j ∧ dgt T L j < 7)) : ∀ (f : Nat), cc T L f j l = 0
  | 0 => rfl
  | f + 1 => if_neg h
theorem cc_s {T : Nat → Nat} {L j l f : Nat} (h : l ≤ dgt T L j ∧ dgt T L j < 7) (hf : 0 < f) : cc T L f j l = cc T L (f - 1) (j + 1) (dgt T L j + 1) + 1 := by
  obtain ⟨k, rfl⟩ : ∃ k, f = k + 1 := ⟨f - 1, by omega⟩
  exact if_pos h
theorem cc_le (T : Nat → Nat) (L : Nat) : ∀ (f j l : Nat), cc T L f j l ≤ f
  | 0, _, _ => Nat.le_refl _
  | f + 1, j, l => by
    show (if l ≤ dgt T L j ∧ dgt T L j < 7 then cc T L f (j + 1) (dgt T L j + 1) + 1 else 0) ≤ f + 1
    have := cc_le T L f (j + 1) (dgt T L j + 1)
    split <;> omega
def cE (T : Nat → Nat) (L i : Nat) : Bool × Nat := if cc T L 7 i 0 = 0 then (false, i) else (true, i + cc T L 7 i 0)
def lsI (l : Nat) : Int32 := if l = 0 then -1 else nI (l - 1)
theorem lsI_s (d : Nat) : lsI (d + 1) = nI d := if_neg (by omega)
theorem lsI_le {l d : Nat} (hl : l ≤ 7) (hd : d < 7) : dgI d ≤ lsI l ↔ ¬ l ≤ d := by
  rw [dgI_p (show ¬ d = 10 by omega)]
  unfold lsI; split
  · next h => subst h; exact ⟨fun q => absurd q (by intro z; have := nI_pos' (show d < 2 ^ 31 by omega); exact absurd (Int32.le_trans this z) (by decide)), fun q => absurd (Nat.zero_le d) q⟩
  · rw [nI_leI (by omega) (by omega)]; omega
/-- an order at i: where it ends, or its fault -/
def oE (T : Nat → Nat) (L i : Nat) : Bool × Nat :=
  if isS T L i 112 then (if (pE T L (i + 1)).1 = true then dE T L (pE T L (i + 1)).2 4 else pE T L (i + 1))
  else if isS T L i 119 then (if dgt T L (i + 1) ≤ 6 then dE T L (i + 2) 4 else (false, i + 1))
  else if isS T L i 103 then (if dgt T L (i + 1) ≤ 6 then (if dgt T L (i + 2) ≤ 6 ∧ ¬ dgt T L (i + 2) = dgt T L (i + 1) then dE T L (i + 3) 1 else (false, i + 2)) else (false, i + 1))
  else if isS T L i 100 then cE T L (i + 1)
  else (false, i)
theorem dE_le (T : Nat → Nat) (L i m : Nat) : (dE T L i m).2 ≤ i + m + 1 := by
  have := dc_le T L m (i + 1)
  unfold dE; (repeat' split) <;> (dsimp only; omega)
theorem pE_le (T : Nat → Nat) (L i : Nat) : (pE T L i).2 ≤ i + 2 := by unfold pE; (repeat' split) <;> (dsimp only; omega)
theorem oE_le (T : Nat → Nat) (L i : Nat) : (oE T L i).2 ≤ i + 8 := by
  have h1 := pE_le T L (i + 1)
  have h2 := dE_le T L (pE T L (i + 1)).2 4
  have h3 := dE_le T L (i + 2) 4
  have h4 := dE_le T L (i + 3) 1
  have h5 := cc_le T L 7 (i + 1) 0
  unfold oE cE; (repeat' split) <;> first | omega | (dsimp only; omega)
/-- the whole text from an order on: (true, how many orders), or (false, the fault) -/
def ft (T : Nat → Nat) (L : Nat) : Nat → Nat → Nat → Bool × Nat
  | 0, _, _ => (false, 0)
  | f + 1, i, n => if (oE T L i).1 = true then (if (oE T L i).2 = L then (true, n + 1) else if isS T L (oE T L i).2 59 then ft T L f ((oE T L i).2 + 1) (n + 1) else (false, (oE T L i).2)) else (false, (oE T L i).2)
theorem er_p {r : Bool × Nat} (h : r.1 = true) : er r = nI r.2 := if_pos h
theorem er_n {r : Bool × Nat} (h : ¬ r.1 = true) : er r = -1 - nI r.2 := if_neg h
theorem dgI_i {d e : Nat} (hd : d ≤ 10) (he : e ≤ 10) : dgI d = dgI e ↔ d = e := by
  by_cases h1 : d = 10
  · subst h1
    by_cases h2 : e = 10
    · subst h2; exact ⟨fun _ => rfl, fun _ => rfl⟩
    · rw [dgI_p h2]; exact ⟨fun q => absurd q.symm (fun z => by have := nI_pos' (show e < 2 ^ 31 by omega); rw [z] at this; exact absurd this (by decide)), fun q => absurd q.symm h2⟩
  · by_cases h2 : e = 10
    · subst h2; rw [dgI_p h1]; exact ⟨fun q => absurd q (fun z => by have := nI_pos' (show d < 2 ^ 31 by omega); rw [z] at this; exact absurd this (by decide)), fun q => absurd q h1⟩
    · rw [dgI_p h1, dgI_p h2]; exact nI_eq (by omega) (by omega)
theorem dE_ge {T : Nat → Nat} {L i m : Nat} (h : (dE T L i m).1 = true) : (dE T L i m).2 = i + m + 1 := by
  unfold dE at h ⊢
  by_cases h1 : isS T L i 61
  · rw [if_pos h1] at h ⊢
    by_cases h2 : dc T L m (i + 1) = m
    · rw [if_pos h2]
    · rw [if_neg h2] at h; cases h
  · rw [if_neg h1] at h; cases h
theorem pE_ge {T : Nat → Nat} {L i : Nat} (h : (pE T L i).1 = true) : i + 1 ≤ (pE T L i).2 := by
  unfold pE at h ⊢; split
  · next q => rw [if_pos q] at h; cases h
  · split <;> (dsimp only; omega)
theorem oE_ge {T : Nat → Nat} {L i : Nat} (h : (oE T L i).1 = true) : i + 2 ≤ (oE T L i).2 := by
  unfold oE at h ⊢
  by_cases h1 : isS T L i 112
  · rw [if_pos h1] at h ⊢
    by_cases h2 : (pE T L (i + 1)).1 = true
    · rw [if_pos h2] at h ⊢; have := dE_ge h; have := pE_ge h2; omega
    · rw [if_neg h2] at h; exact absurd h h2
  · rw [if_neg h1] at h ⊢
    by_cases h2 : isS T L i 119
    · rw [if_pos h2] at h ⊢
      by_cases h3 : dgt T L (i + 1) ≤ 6
      · rw [if_pos h3] at h ⊢; have := dE_ge h; omega
      · rw [if_neg h3] at h; cases h
    · rw [if_neg h2] at h ⊢
      by_cases h3 : isS T L i 103
      · rw [if_pos h3] at h ⊢
        by_cases h4 : dgt T L (i + 1) ≤ 6
        · rw [if_pos h4] at h ⊢
          by_cases h5 : dgt T L (i + 2) ≤ 6 ∧ ¬ dgt T L (i + 2) = dgt T L (i + 1)
          · rw [if_pos h5] at h ⊢; have := dE_ge h; omega
          · rw [if_neg h5] at h; cases h
        · rw [if_neg h4] at h; cases h
      · rw [if_neg h3] at h ⊢
        by_cases h4 : isS T L i 100
        · rw [if_pos h4] at h ⊢
          unfold cE at h ⊢
          by_cases h5 : cc T L 7 (i + 1) 0 = 0
          · rw [if_pos h5] at h; cases h
          · rw [if_neg h5]; dsimp only; omega
        · rw [if_neg h4] at h; cases h
def ftI (r : Bool × Nat) : Int32 := if r.1 = true then -5 else nI r.2
theorem ft_s {T : Nat → Nat} {L f i n : Nat} (hf : 0 < f) : ft T L f i n = if (oE T L i).1 = true then (if (oE T L i).2 = L then (true, n + 1) else if isS T L (oE T L i).2 59 then ft T L (f - 1) ((oE T L i).2 + 1) (n + 1) else (false, (oE T L i).2)) else (false, (oE T L i).2) := by
  obtain ⟨k, rfl⟩ : ∃ k, f = k + 1 := ⟨f - 1, by omega⟩
  rfl
theorem sub_sub1 (f : Nat) : (-1 : Int32) - (-1 - nI f) = nI f := by
  rw [Int32.sub_eq_add_neg, Int32.neg_sub, Int32.add_comm, Int32.sub_add_cancel]
