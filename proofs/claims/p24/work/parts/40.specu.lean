/-! orders carried out -/
theorem ok_ow {M : Nat → Nat} (h : ok M) : ∀ k, k < 24 → ow M 0 k < 8 := fun k hk => by
  unfold ow; rw [show 0 + 96 + k = 96 + k by omega]; exact h.2.1 k hk
theorem ok_va {M : Nat → Nat} {j v : Nat} (h : ok M) (h1 : j < 96 → v < 10) (h2 : 96 ≤ j → j < 120 → v < 8) (h3 : 120 ≤ j → j < 197 → v < 10) (h4 : j = 197 → v < 2) (h5 : j = 198 → 0 < v ∧ v < 11) : ok (va_up M j v) := by
  refine ⟨fun i hi => ?_, fun i hi => ?_, fun i hi => ?_, fun i hi => ?_, ?_, ?_, ?_⟩ <;> unfold va_up <;> split
  · exact h1 (by omega)
  · exact h.1 i hi
  · exact h2 (by omega) (by omega)
  · exact h.2.1 i hi
  · exact h3 (by omega) (by omega)
  · exact h.2.2.1 i hi
  · exact h3 (by omega) (by omega)
  · exact h.2.2.2.1 i hi
  · exact h4 (by omega)
  · exact h.2.2.2.2.1
  · exact (h5 (by omega)).1
  · exact h.2.2.2.2.2.1
  · exact (h5 (by omega)).2
  · exact h.2.2.2.2.2.2
theorem ok_cp {M F : Nat → Nat} {a : Nat} (h : ok M) (ha : a + 4 ≤ 96 ∨ (120 ≤ a ∧ a + 4 ≤ 148)) (hF : ∀ k, k < 4 → F k < 10) : ok (cpA M F a 4) := by
  refine ⟨fun i hi => ?_, fun i hi => ?_, fun i hi => ?_, fun i hi => ?_, ?_, ?_, ?_⟩ <;> unfold cpA <;> split
  · exact hF _ (by omega)
  · exact h.1 i hi
  · exfalso; omega
  · exact h.2.1 i hi
  · exact hF _ (by omega)
  · exact h.2.2.1 i hi
  · exfalso; omega
  · exact h.2.2.2.1 i hi
  · exfalso; omega
  · exact h.2.2.2.2.1
  · exfalso; omega
  · exact h.2.2.2.2.2.1
  · exfalso; omega
  · exact h.2.2.2.2.2.2
/-- the digits from j on -/
def dgF (T : Nat → Nat) (L j : Nat) : Nat → Nat := fun k => dgt T L (j + k)
/-- the set that n digits from j on tell -/
def pq (T : Nat → Nat) (L j : Nat) : Nat → Nat
  | 0 => 0
  | n + 1 => pq T L j n ||| 2 ^ dgt T L (j + n)
theorem pq_lt {T : Nat → Nat} {L j : Nat} : ∀ {n : Nat}, (∀ k, k < n → dgt T L (j + k) < 7) → pq T L j n < 128
  | 0, _ => (by decide : 0 < 128)
  | n + 1, h => bt_lor_d _ (pq_lt (fun k hk => h k (by omega))) _ (h n (Nat.lt_succ_self n))
theorem lor_pos_d : ∀ A, A < 128 → ∀ c, c < 7 → 0 < (A ||| 2 ^ c) := by decide +kernel
theorem pq_pos {T : Nat → Nat} {L j n : Nat} (hn : 0 < n) (h : ∀ k, k < n → dgt T L (j + k) < 7) : 0 < pq T L j n := by
  obtain ⟨k, rfl⟩ : ∃ k, n = k + 1 := ⟨n - 1, by omega⟩
  exact lor_pos_d _ (pq_lt (fun i hi => h i (by omega))) _ (h k (Nat.lt_succ_self k))
/-- a plot's number -/
def pN (T : Nat → Nat) (L i : Nat) : Nat := if (dgt T L i = 1 ∧ ¬ dgt T L (i + 1) = 10) ∨ (dgt T L i = 2 ∧ dgt T L (i + 1) ≤ 3) then 10 * dgt T L i + dgt T L (i + 1) else dgt T L i
theorem pE_d {T : Nat → Nat} {L i : Nat} (h : (pE T L i).1 = true) : ¬ dgt T L i = 10 := fun e => by
  unfold pE at h; rw [if_pos e] at h; cases h
theorem pF_N {T : Nat → Nat} {L i : Nat} (h : (pE T L i).1 = true) : pF T L i = nI (pN T L i) ∧ pN T L i < 24 := by
  have hd := pE_d h
  have h1 := dgt_le T L i
  have h2 := dgt_le T L (i + 1)
  unfold pF pN; rw [if_neg hd]
  by_cases q : (dgt T L i = 1 ∧ ¬ dgt T L (i + 1) = 10) ∨ (dgt T L i = 2 ∧ dgt T L (i + 1) ≤ 3)
  · rw [if_pos q, if_pos q]; exact ⟨rfl, by omega⟩
  · rw [if_neg q, if_neg q]; exact ⟨rfl, by omega⟩
theorem pE_1 {T : Nat → Nat} {L i : Nat} (h : (pE T L i).1 = true) (h2 : (pE T L i).2 = i + 1) : pN T L i = dgt T L i := by
  have hd := pE_d h
  unfold pN
  by_cases q : (dgt T L i = 1 ∧ ¬ dgt T L (i + 1) = 10) ∨ (dgt T L i = 2 ∧ dgt T L (i + 1) ≤ 3)
  · unfold pE at h2; rw [if_neg hd, if_pos q] at h2
    have h3 : i + 2 = i + 1 := h2
    exfalso; omega
  · rw [if_neg q]
theorem pE_2 {T : Nat → Nat} {L i : Nat} (h : (pE T L i).1 = true) (h2 : ¬ (pE T L i).2 = i + 1) : pN T L i = 10 * dgt T L i + dgt T L (i + 1) ∧ ¬ dgt T L (i + 1) = 10 := by
  have hd := pE_d h
  unfold pN
  by_cases q : (dgt T L i = 1 ∧ ¬ dgt T L (i + 1) = 10) ∨ (dgt T L i = 2 ∧ dgt T L (i + 1) ≤ 3)
  · rw [if_pos q]; exact ⟨rfl, by omega⟩
  · unfold pE at h2; rw [if_neg hd, if_neg q] at h2; exact absurd rfl h2
theorem cc_lt {T : Nat → Nat} {L : Nat} : ∀ {f j l k : Nat}, k < cc T L f j l → dgt T L (j + k) < 7
  | 0, _, _, k, h => absurd h (Nat.not_lt_zero k)
  | f + 1, j, l, k, h => by
    by_cases q : l ≤ dgt T L j ∧ dgt T L j < 7
    · rw [cc_s q (Nat.succ_pos f)] at h
      have h : k < cc T L f (j + 1) (dgt T L j + 1) + 1 := h
      rcases Nat.eq_zero_or_pos k with e | e
      · subst e; exact q.2
      · have := cc_lt (T := T) (L := L) (f := f) (j := j + 1) (l := dgt T L j + 1) (k := k - 1) (by omega)
        rwa [show j + 1 + (k - 1) = j + k by omega] at this
    · rw [cc_0 q] at h; exact absurd h (Nat.not_lt_zero k)
theorem dE_t {T : Nat → Nat} {L i m : Nat} (h : (dE T L i m).1 = true) : isS T L i 61 ∧ dc T L m (i + 1) = m ∧ (dE T L i m).2 = i + m + 1 := by
  unfold dE at h ⊢
  by_cases h1 : isS T L i 61
  · rw [if_pos h1] at h ⊢
    by_cases h2 : dc T L m (i + 1) = m
    · rw [if_pos h2]; exact ⟨h1, h2, rfl⟩
    · rw [if_neg h2] at h; cases h
  · rw [if_neg h1] at h; cases h
theorem isS_n {T : Nat → Nat} {L i a b : Nat} (h : isS T L i a) (hab : a ≠ b) : ¬ isS T L i b := fun q => hab (h.2.symm.trans q.2)
theorem oE_p {T : Nat → Nat} {L i : Nat} (hs : isS T L i 112) (ho : (oE T L i).1 = true) : (pE T L (i + 1)).1 = true ∧ oE T L i = dE T L (pE T L (i + 1)).2 4 := by
  unfold oE at ho ⊢; rw [if_pos hs] at ho ⊢
  by_cases h2 : (pE T L (i + 1)).1 = true
  · rw [if_pos h2]; exact ⟨h2, rfl⟩
  · rw [if_neg h2] at ho; exact absurd ho h2
theorem oE_w {T : Nat → Nat} {L i : Nat} (hs : isS T L i 119) (ho : (oE T L i).1 = true) : dgt T L (i + 1) ≤ 6 ∧ oE T L i = dE T L (i + 2) 4 := by
  unfold oE at ho ⊢; rw [if_neg (isS_n hs (by decide)), if_pos hs] at ho ⊢
  by_cases h2 : dgt T L (i + 1) ≤ 6
  · rw [if_pos h2]; exact ⟨h2, rfl⟩
  · rw [if_neg h2] at ho; cases ho
theorem oE_g {T : Nat → Nat} {L i : Nat} (hs : isS T L i 103) (ho : (oE T L i).1 = true) : dgt T L (i + 1) ≤ 6 ∧ (dgt T L (i + 2) ≤ 6 ∧ ¬ dgt T L (i + 2) = dgt T L (i + 1)) ∧ oE T L i = dE T L (i + 3) 1 := by
  unfold oE at ho ⊢; rw [if_neg (isS_n hs (by decide)), if_neg (isS_n hs (by decide)), if_pos hs] at ho ⊢
  by_cases h2 : dgt T L (i + 1) ≤ 6
  · rw [if_pos h2] at ho ⊢
    by_cases h3 : dgt T L (i + 2) ≤ 6 ∧ ¬ dgt T L (i + 2) = dgt T L (i + 1)
    · rw [if_pos h3]; exact ⟨h2, h3, rfl⟩
    · rw [if_neg h3] at ho; cases ho
  · rw [if_neg h2] at ho; cases ho
theorem oE_d {T : Nat → Nat} {L i : Nat} (h1 : ¬ isS T L i 112) (h2 : ¬ isS T L i 119) (h3 : ¬ isS T L i 103) (ho : (oE T L i).1 = true) : isS T L i 100 ∧ oE T L i = cE T L (i + 1) := by
  unfold oE at ho ⊢; rw [if_neg h1, if_neg h2, if_neg h3] at ho ⊢
  by_cases h4 : isS T L i 100
  · rw [if_pos h4]; exact ⟨h4, rfl⟩
  · rw [if_neg h4] at ho; cases ho
theorem dE_4 {T : Nat → Nat} {L i j m : Nat} (hm : 0 < m) (e : oE T L i = dE T L j m) (ho : (oE T L i).1 = true) : (oE T L i).2 = j + m + 1 ∧ m ≤ (oE T L i).2 ∧ ∀ k, k < m → ¬ dgt T L ((oE T L i).2 - m + k) = 10 := by
  rw [e] at ho ⊢
  have h := dE_t ho
  refine ⟨h.2.2, by omega, fun k hk => ?_⟩
  rw [show (dE T L j m).2 - m + k = j + 1 + k by omega]
  exact dc_all h.2.1 k hk
theorem oP {T : Nat → Nat} {L i : Nat} (hs : isS T L i 112) (ho : (oE T L i).1 = true) : pN T L (i + 1) < 24 ∧ (pE T L (i + 1)).1 = true ∧ 4 ≤ (oE T L i).2 ∧ ∀ k, k < 4 → ¬ dgt T L ((oE T L i).2 - 4 + k) = 10 := by
  obtain ⟨h1, h2⟩ := oE_p hs ho
  have h3 := dE_4 (by decide) h2 ho
  exact ⟨(pF_N h1).2, h1, h3.2⟩
theorem oW {T : Nat → Nat} {L i : Nat} (hs : isS T L i 119) (ho : (oE T L i).1 = true) : dgt T L (i + 1) ≤ 6 ∧ 4 ≤ (oE T L i).2 ∧ ∀ k, k < 4 → ¬ dgt T L ((oE T L i).2 - 4 + k) = 10 := by
  obtain ⟨h1, h2⟩ := oE_w hs ho
  exact ⟨h1, (dE_4 (by decide) h2 ho).2⟩
theorem oG {T : Nat → Nat} {L i : Nat} (hs : isS T L i 103) (ho : (oE T L i).1 = true) : dgt T L (i + 1) ≤ 6 ∧ dgt T L (i + 2) ≤ 6 ∧ ¬ dgt T L (i + 2) = dgt T L (i + 1) ∧ 1 ≤ (oE T L i).2 ∧ ¬ dgt T L ((oE T L i).2 - 1) = 10 := by
  obtain ⟨h1, h2, h3⟩ := oE_g hs ho
  have h4 := dE_4 (by decide) h3 ho
  exact ⟨h1, h2.1, h2.2, h4.2.1, h4.2.2 0 (by decide)⟩
theorem oD {T : Nat → Nat} {L i : Nat} (h1 : ¬ isS T L i 112) (h2 : ¬ isS T L i 119) (h3 : ¬ isS T L i 103) (ho : (oE T L i).1 = true) : isS T L i 100 ∧ (oE T L i).2 = i + 1 + cc T L 7 (i + 1) 0 ∧ 0 < cc T L 7 (i + 1) 0 ∧ ∀ k, k < cc T L 7 (i + 1) 0 → dgt T L (i + 1 + k) < 7 := by
  obtain ⟨h4, h5⟩ := oE_d h1 h2 h3 ho
  rw [h5] at ho ⊢
  unfold cE at ho ⊢
  by_cases q : cc T L 7 (i + 1) 0 = 0
  · rw [if_pos q] at ho; cases ho
  · rw [if_neg q]; exact ⟨h4, rfl, by omega, fun k hk => cc_lt hk⟩
theorem oE_lt {T : Nat → Nat} {L i : Nat} (ho : (oE T L i).1 = true) : i < L := by
  by_cases h1 : isS T L i 112
  · exact h1.1
  · by_cases h2 : isS T L i 119
    · exact h2.1
    · by_cases h3 : isS T L i 103
      · exact h3.1
      · exact (oD h1 h2 h3 ho).1.1
/-- a state behind the order at i -/
def aDo (M T : Nat → Nat) (L i : Nat) : Nat → Nat :=
  if isS T L i 112 then cpA M (dgF T L ((oE T L i).2 - 4)) (0 + 4 * pN T L (i + 1)) 4
  else if isS T L i 119 then cpA M (dgF T L ((oE T L i).2 - 4)) (120 + 4 * dgt T L (i + 1)) 4
  else if isS T L i 103 then va_up M (148 + 7 * dgt T L (i + 1) + dgt T L (i + 2)) (dgt T L ((oE T L i).2 - 1))
  else dM M (pq T L (i + 1) ((oE T L i).2 - (i + 1)))
theorem aDo_p {M T : Nat → Nat} {L i : Nat} (h : isS T L i 112) : aDo M T L i = cpA M (dgF T L ((oE T L i).2 - 4)) (0 + 4 * pN T L (i + 1)) 4 := if_pos h
theorem aDo_w {M T : Nat → Nat} {L i : Nat} (h : isS T L i 119) : aDo M T L i = cpA M (dgF T L ((oE T L i).2 - 4)) (120 + 4 * dgt T L (i + 1)) 4 := by unfold aDo; rw [if_neg (isS_n h (by decide)), if_pos h]
theorem aDo_g {M T : Nat → Nat} {L i : Nat} (h : isS T L i 103) : aDo M T L i = va_up M (148 + 7 * dgt T L (i + 1) + dgt T L (i + 2)) (dgt T L ((oE T L i).2 - 1)) := by unfold aDo; rw [if_neg (isS_n h (by decide)), if_neg (isS_n h (by decide)), if_pos h]
theorem aDo_d {M T : Nat → Nat} {L i : Nat} (h1 : ¬ isS T L i 112) (h2 : ¬ isS T L i 119) (h3 : ¬ isS T L i 103) : aDo M T L i = dM M (pq T L (i + 1) ((oE T L i).2 - (i + 1))) := by unfold aDo; rw [if_neg h1, if_neg h2, if_neg h3]
theorem dg_9 {T : Nat → Nat} {L i : Nat} (h : ¬ dgt T L i = 10) : dgt T L i < 10 := by have := dgt_le T L i; omega
theorem dM_ok {M : Nat → Nat} {A : Nat} (h : ok M) (hA0 : 0 < A) (hA : A < 128) : ok (dM M A) := dvM_ok h (Or.inl rfl) (dO_lt h hA0 hA (ok_ow h)) _ _
theorem aDo_ok {M T : Nat → Nat} {L i : Nat} (h : ok M) (ho : (oE T L i).1 = true) : ok (aDo M T L i) := by
  by_cases h1 : isS T L i 112
  · rw [aDo_p h1]
    have q := oP h1 ho
    exact ok_cp h (by omega) (fun k hk => dg_9 (q.2.2.2 k hk))
  · by_cases h2 : isS T L i 119
    · rw [aDo_w h2]
      have q := oW h2 ho
      exact ok_cp h (by omega) (fun k hk => dg_9 (q.2.2 k hk))
    · by_cases h3 : isS T L i 103
      · rw [aDo_g h3]
        have q := oG h3 ho
        have q9 := dg_9 q.2.2.2.2
        exact ok_va h (fun _ => q9) (fun _ _ => by omega) (fun _ _ => q9) (fun _ => by omega) (fun _ => by omega)
      · rw [aDo_d h1 h2 h3]
        have q := oD h1 h2 h3 ho
        rw [show (oE T L i).2 - (i + 1) = cc T L 7 (i + 1) 0 by omega]
        exact dM_ok h (pq_pos q.2.2.1 q.2.2.2) (pq_lt q.2.2.2)
/-- where the orders begin -/
def qs (T : Nat → Nat) (L i : Nat) : Nat → Nat
  | 0 => i
  | k + 1 => (oE T L (qs T L i k)).2 + 1
theorem qs_sh (T : Nat → Nat) (L i : Nat) : ∀ k, qs T L i (k + 1) = qs T L ((oE T L i).2 + 1) k
  | 0 => rfl
  | k + 1 => by show (oE T L (qs T L i (k + 1))).2 + 1 = (oE T L (qs T L ((oE T L i).2 + 1) k)).2 + 1; rw [qs_sh T L i k]
/-- a state behind the first n orders -/
def dos (M T : Nat → Nat) (L : Nat) : Nat → Nat → Nat
  | 0 => M
  | k + 1 => aDo (dos M T L k) T L (qs T L 0 k)
theorem ft_q {T : Nat → Nat} {L : Nat} : ∀ {f i n N : Nat}, ft T L f i n = (true, N) → n < N ∧ N ≤ n + f ∧ (∀ k, n + k < N → (oE T L (qs T L i k)).1 = true) ∧ (∀ k, n + k + 1 < N → isS T L (oE T L (qs T L i k)).2 59) ∧ qs T L i (N - n) = L + 1
  | 0, _, _, _, h => by cases h
  | f + 1, i, n, N, h => by
    rw [ft_s (Nat.succ_pos f)] at h
    by_cases h1 : (oE T L i).1 = true
    · rw [if_pos h1] at h
      by_cases h2 : (oE T L i).2 = L
      · rw [if_pos h2] at h
        have e : n + 1 = N := congrArg Prod.snd h
        subst e
        refine ⟨by omega, by omega, fun k hk => ?_, fun k hk => ?_, ?_⟩
        · rw [show k = 0 by omega]; exact h1
        · exfalso; omega
        · rw [show n + 1 - n = 1 by omega]; show (oE T L i).2 + 1 = L + 1; rw [h2]
      · rw [if_neg h2] at h
        by_cases h3 : isS T L (oE T L i).2 59
        · rw [if_pos h3] at h
          obtain ⟨a1, a2, a3, a4, a5⟩ := ft_q (f := f) h
          refine ⟨by omega, by omega, fun k hk => ?_, fun k hk => ?_, ?_⟩
          · rcases Nat.eq_zero_or_pos k with e | e
            · subst e; exact h1
            · obtain ⟨q, rfl⟩ : ∃ q, k = q + 1 := ⟨k - 1, by omega⟩
              rw [qs_sh]; exact a3 q (by omega)
          · rcases Nat.eq_zero_or_pos k with e | e
            · subst e; exact h3
            · obtain ⟨q, rfl⟩ : ∃ q, k = q + 1 := ⟨k - 1, by omega⟩
              rw [qs_sh]; exact a4 q (by omega)
          · rw [show N - n = (N - (n + 1)) + 1 by omega, qs_sh]; exact a5
        · rw [if_neg h3] at h; cases h
    · rw [if_neg h1] at h; cases h
theorem ft_bd {T : Nat → Nat} {L : Nat} : ∀ {f i n : Nat}, i ≤ L → ¬ (ft T L f i n).1 = true → (ft T L f i n).2 ≤ L + 8
  | 0, _, _, _, _ => Nat.zero_le _
  | f + 1, i, n, hi, h => by
    have ho := oE_le T L i
    rw [ft_s (Nat.succ_pos f)] at h ⊢
    by_cases h1 : (oE T L i).1 = true
    · rw [if_pos h1] at h ⊢
      by_cases h2 : (oE T L i).2 = L
      · rw [if_pos h2] at h; exact absurd rfl h
      · rw [if_neg h2] at h ⊢
        by_cases h3 : isS T L (oE T L i).2 59
        · rw [if_pos h3] at h ⊢
          exact ft_bd (f := f + 1 - 1) (by have := h3.1; omega) h
        · rw [if_neg h3]; show (oE T L i).2 ≤ L + 8; omega
    · rw [if_neg h1]; show (oE T L i).2 ≤ L + 8; omega
theorem ftI_5 {r : Bool × Nat} (h : ¬ r.1 = true → r.2 < 2147483648) : ftI r = -5 ↔ r.1 = true := by
  unfold ftI
  by_cases q : r.1 = true
  · rw [if_pos q]; exact ⟨fun _ => q, fun _ => rfl⟩
  · rw [if_neg q]; exact ⟨fun e => absurd e (nI_n5 (h q)), fun e => absurd e q⟩
abbrev fT (T : Nat → Nat) (L : Nat) : Bool × Nat := ft T L 60 0 0
theorem fT_q {T : Nat → Nat} {L : Nat} (h : (fT T L).1 = true) : 0 < (fT T L).2 ∧ (fT T L).2 ≤ 60 ∧ (∀ k, k < (fT T L).2 → (oE T L (qs T L 0 k)).1 = true) ∧ (∀ k, k + 1 < (fT T L).2 → isS T L (oE T L (qs T L 0 k)).2 59) ∧ qs T L 0 (fT T L).2 = L + 1 := by
  obtain ⟨a1, a2, a3, a4, a5⟩ := ft_q (f := 60) (i := 0) (n := 0) (N := (fT T L).2) (show fT T L = (true, (fT T L).2) by rw [← h])
  exact ⟨a1, by omega, fun k hk => a3 k (by omega), fun k hk => a4 k (by omega), a5⟩
theorem dos_ok {M T : Nat → Nat} {L : Nat} (h : ok M) (hf : (fT T L).1 = true) : ∀ {k : Nat}, k ≤ (fT T L).2 → ok (dos M T L k)
  | 0, _ => h
  | k + 1, hk => aDo_ok (dos_ok h hf (k := k) (by omega)) ((fT_q hf).2.2.1 k (by omega))
def aPerf (M P T : Nat → Nat) (kn ln : Nat) : A4 := if (fT T ln).1 = true then (nI (fT T ln).2, dos M T ln (fT T ln).2, pushP P M kn, pushK kn) else (-100 - nI (fT T ln).2, M, P, kn)
