/-! the class's reading of a text -/
abbrev rdk (T : Nat → Nat) (L i lo g : Nat) : Prop := ¬ dgt T L i = 10 ∧ lo ≤ dgt T L i ∧ dgt T L i < g
def rdI (T : Nat → Nat) (L i lo g : Nat) : Int32 := if rdk T L i lo g then nI (dgt T L i) else -1
theorem rdI_p {T : Nat → Nat} {L i lo g : Nat} (h : rdk T L i lo g) : rdI T L i lo g = nI (dgt T L i) := if_pos h
theorem rdI_n {T : Nat → Nat} {L i lo g : Nat} (h : ¬ rdk T L i lo g) : rdI T L i lo g = -1 := if_neg h
theorem sub_lt {a b c : Nat} (ha : a < 1073741824) (hb : b < 1073741824) (hc : c < 1073741824) : nI a - nI b < nI c ↔ a < b + c := by
  rw [Int32.lt_iff_toInt_lt, pk_sub_toInt ha hb, nI_toInt (by omega)]; omega
theorem rd_d {T : Nat → Nat} {L i : Nat} (h : ¬ dgt T L i = 10) : 48 ≤ T i ∧ dgt T L i = T i - 48 ∧ T i ≤ 57 ∧ i < L := by
  unfold dgt at h ⊢; split at h
  · next q => rw [if_pos q]; exact ⟨q.2.1, rfl, q.2.2, q.1⟩
  · exact absurd rfl h
theorem rd_a {T : Nat → Nat} {L i lo g : Nat} (h : ¬ i < L) : ¬ rdk T L i lo g := fun q => h (rd_d q.1).2.2.2
theorem rd_b {T : Nat → Nat} {L i lo g : Nat} (hT : T i < 65536) (hlo : lo ≤ 9) (h : nI (T i) - nI 48 < nI lo) : ¬ rdk T L i lo g := fun q => by
  have d := rd_d q.1
  rw [sub_lt (by omega) (by omega) (by omega)] at h
  have := q.2.1; omega
theorem rd_c {T : Nat → Nat} {L i lo g : Nat} {gI : Int32} (hT : T i < 65536) (hg : ∀ d, d < 10 → (¬ gI < nI d ↔ d < g)) (h : ¬ nI (T i) - nI 48 ≤ gI) : ¬ rdk T L i lo g := fun q => by
  have d := rd_d q.1
  rw [pk_sub d.1, ← d.2.1] at h
  exact h (Int32.not_lt.mp ((hg _ (by omega)).mpr q.2.2))
theorem rd_y {T : Nat → Nat} {L i lo g : Nat} {gI : Int32} (hT : T i < 65536) (hL : i < L) (hlo : lo ≤ 9) (hg : ∀ d, d < 10 → (¬ gI < nI d ↔ d < g)) (hg9 : ¬ nI 9 < gI) (h1 : ¬ nI (T i) - nI 48 < nI lo) (h2 : nI (T i) - nI 48 ≤ gI) : rdk T L i lo g ∧ nI (T i) - nI 48 = nI (dgt T L i) := by
  rw [sub_lt (by omega) (by omega) (by omega)] at h1
  have e := pk_sub (a := T i) (b := 48) (by omega)
  rw [e] at h2
  have h9 : nI (T i - 48) ≤ nI 9 := Int32.le_trans h2 (Int32.not_lt.mp hg9)
  have h3 : T i - 48 ≤ 9 := (nI_leI (by omega) (by omega)).mp h9
  have hd : dgt T L i = T i - 48 := by unfold dgt; rw [if_pos (by omega)]
  refine ⟨⟨by omega, by omega, ?_⟩, by rw [e, hd]⟩
  rw [hd]; exact (hg _ (by omega)).mp (Int32.not_lt.mpr h2)
/-- the bounds that the readers give -/
theorem bd_n {g : Nat} (hg : g ≤ 10) (h0 : 0 < g) : (∀ d, d < 10 → (¬ nI (g - 1) < nI d ↔ d < g)) ∧ ¬ nI 9 < nI (g - 1) := ⟨fun d hd => ⟨fun h => by rcases Nat.lt_or_ge d g with q | q; exact q; exact absurd (nI_lt (show g - 1 < d by omega) (by omega)) h, fun h => nI_nlt (by omega) (by omega)⟩, nI_nlt (by omega) (by omega)⟩
theorem bd_s {f : Nat} (hf : f ≤ 9) : (∀ d, d < 10 → (¬ nI f - nI 1 < nI d ↔ d < f)) ∧ ¬ nI 9 < nI f - nI 1 := by
  refine ⟨fun d hd => ?_, ?_⟩
  · rw [sub_lt (by omega) (by omega) (by omega)]; omega
  · rw [Int32.lt_iff_toInt_lt, pk_sub_toInt (by omega) (by omega), nI_toInt (by omega)]; omega
/-- whose order it is -/
def pF (T : Nat → Nat) (L i : Nat) : Int32 := if dgt T L i = 10 then -1 else if (dgt T L i = 1 ∧ ¬ dgt T L (i + 1) = 10) ∨ (dgt T L i = 2 ∧ dgt T L (i + 1) ≤ 3) then nI (10 * dgt T L i + dgt T L (i + 1)) else nI (dgt T L i)
def pg (d : Nat) : Nat := if d = 1 then 10 else if d = 2 then 4 else 0
abbrev pgI (d : Nat) : Int32 := if nI 23 - nI (10 * d) < nI 9 then nI 23 - nI (10 * d) else nI 9
theorem bd_p : ∀ d, d < 10 → 0 < d → (∀ e, e < 10 → (¬ pgI d < nI e ↔ e < pg d)) ∧ ¬ nI 9 < pgI d := by decide +kernel
theorem pE_a {T : Nat → Nat} {L i : Nat} (h : ¬ rdk T L i 0 10) : pE T L i = (false, i) ∧ pF T L i = -1 := by
  have hd := dgt_le T L i
  have e : dgt T L i = 10 := by
    rcases Nat.decEq (dgt T L i) 10 with q | q
    · exact absurd ⟨q, Nat.zero_le _, by omega⟩ h
    · exact q
  unfold pE pF; rw [if_pos e, if_pos e]; exact ⟨rfl, rfl⟩
theorem pE_b {T : Nat → Nat} {L i : Nat} (h : rdk T L i 0 10) (h2 : ¬ rdk T L (i + 1) 0 (pg (dgt T L i))) : pE T L i = (true, i + 1) ∧ pF T L i = nI (dgt T L i) := by
  have hd := dgt_le T L (i + 1)
  have e : ¬ ((dgt T L i = 1 ∧ ¬ dgt T L (i + 1) = 10) ∨ (dgt T L i = 2 ∧ dgt T L (i + 1) ≤ 3)) := fun q => h2 (by
    rcases q with ⟨q1, q2⟩ | ⟨q1, q2⟩
    · exact ⟨q2, Nat.zero_le _, by rw [q1]; show _ < 10; omega⟩
    · exact ⟨by omega, Nat.zero_le _, by rw [q1]; show _ < 4; omega⟩)
  unfold pE pF; rw [if_neg h.1, if_neg e, if_neg h.1, if_neg e]; exact ⟨rfl, rfl⟩
theorem pE_z {T : Nat → Nat} {L i : Nat} (h : rdk T L i 0 10) (h2 : dgt T L i = 0) : pE T L i = (true, i + 1) ∧ pF T L i = nI (dgt T L i) := pE_b h (fun q => by rw [h2] at q; exact absurd q.2.2 (by show ¬ _ < 0; omega))
theorem pE_c {T : Nat → Nat} {L i : Nat} (h : rdk T L i 0 10) (h2 : rdk T L (i + 1) 0 (pg (dgt T L i))) : pE T L i = (true, i + 2) ∧ pF T L i = nI (10 * dgt T L i + dgt T L (i + 1)) := by
  have e : (dgt T L i = 1 ∧ ¬ dgt T L (i + 1) = 10) ∨ (dgt T L i = 2 ∧ dgt T L (i + 1) ≤ 3) := by
    have h3 := h2.2.2
    unfold pg at h3
    split at h3
    · exact Or.inl ⟨by assumption, h2.1⟩
    · split at h3
      · exact Or.inr ⟨by assumption, by omega⟩
      · exact absurd h3 (Nat.not_lt_zero _)
  unfold pE pF; rw [if_neg h.1, if_pos e, if_neg h.1, if_pos e]; exact ⟨rfl, rfl⟩
