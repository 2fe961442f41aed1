/-! trading -/
def swO (O : Nat → Nat) (c d : Nat) : Nat → Nat := fun k => swp c d (O k)
def bsf (M O : Nat → Nat) : Nat → Nat × Nat
  | 0 => (0, 0)
  | k + 1 => if ¬ (k % 7 ≤ k / 7) ∧ rs M O (k / 7) (k % 7) = 0 then (if (bsf M O k).1 = 0 ∨ es M (swO O (k / 7) (k % 7)) 127 127 < (bsf M O k).2 then (10 * (k / 7) + k % 7, es M (swO O (k / 7) (k % 7)) 127 127) else bsf M O k) else bsf M O k
theorem bsf_s (M O : Nat → Nat) (k : Nat) : bsf M O (k + 1) = if ¬ (k % 7 ≤ k / 7) ∧ rs M O (k / 7) (k % 7) = 0 then (if (bsf M O k).1 = 0 ∨ es M (swO O (k / 7) (k % 7)) 127 127 < (bsf M O k).2 then (10 * (k / 7) + k % 7, es M (swO O (k / 7) (k % 7)) 127 127) else bsf M O k) else bsf M O k := rfl
/-- the best trade of a row: none is told as -5 -/
def nbI (b : Nat) : Int32 := if b = 0 then -5 else nI b
theorem nbI_p {b : Nat} (h : ¬ b = 0) : nbI b = nI b := if_neg h
theorem nI_n5 {b : Nat} (hb : b < 2147483648) : ¬ nI b = -5 := fun e => by
  have h := nI_pos' hb
  rw [e] at h
  exact absurd h (by decide)
theorem nbI_5 {b : Nat} (hb : b < 2147483648) : nbI b = -5 ↔ b = 0 := by
  unfold nbI; split
  · exact ⟨fun _ => by assumption, fun _ => rfl⟩
  · exact ⟨fun e => absurd e (nI_n5 hb), fun e => absurd e (by assumption)⟩
/-- what the best trade so far is -/
theorem bsf_i (M O : Nat → Nat) : ∀ (k : Nat), (bsf M O k).1 = 0 ∨ ∃ j, j < k ∧ ¬ (j % 7 ≤ j / 7) ∧ rs M O (j / 7) (j % 7) = 0 ∧ (bsf M O k).1 = 10 * (j / 7) + j % 7 ∧ (bsf M O k).2 = es M (swO O (j / 7) (j % 7)) 127 127
  | 0 => Or.inl rfl
  | k + 1 => by
    have ih := bsf_i M O k
    rw [bsf_s]
    have ih' : (bsf M O k).1 = 0 ∨ ∃ j, j < k + 1 ∧ ¬ (j % 7 ≤ j / 7) ∧ rs M O (j / 7) (j % 7) = 0 ∧ (bsf M O k).1 = 10 * (j / 7) + j % 7 ∧ (bsf M O k).2 = es M (swO O (j / 7) (j % 7)) 127 127 := by
      rcases ih with h | ⟨j, h1, h2⟩
      · exact Or.inl h
      · exact Or.inr ⟨j, by omega, h2⟩
    split
    · next h =>
      split
      · exact Or.inr ⟨k, by omega, h.1, h.2, rfl, rfl⟩
      · exact ih'
    · exact ih'
theorem bsf_lt (M O : Nat → Nat) {k : Nat} (hk : k ≤ 49) : (bsf M O k).1 < 67 := by
  rcases bsf_i M O k with h | ⟨j, h1, h2, h3, h4, h5⟩ <;> omega
theorem bsf_ne {M O : Nat → Nat} {k : Nat} (hk : k < 49) : ¬ nbI (bsf M O k).1 = nI (10 * (k / 7) + k % 7) := by
  rcases bsf_i M O k with h | ⟨j, h1, h2, h3, h4, h5⟩
  · rw [h]; intro e; exact nI_n5 (show 10 * (k / 7) + k % 7 < 2147483648 by omega) e.symm
  · rw [nbI_p (by omega), nI_eq (by omega) (by omega)]; omega
theorem bsf_b {M O : Nat → Nat} (h : ¬ (bsf M O 49).1 = 0) : (bsf M O 49).1 / 10 < (bsf M O 49).1 % 10 ∧ (bsf M O 49).1 % 10 < 7 ∧ rs M O ((bsf M O 49).1 / 10) ((bsf M O 49).1 % 10) = 0 := by
  rcases bsf_i M O 49 with e | ⟨j, h1, h2, h3, h4, h5⟩
  · exact absurd e h
  · have e1 : (10 * (j / 7) + j % 7) / 10 = j / 7 := by omega
    have e2 : (10 * (j / 7) + j % 7) % 10 = j % 7 := by omega
    rw [h4, e1, e2]
    exact ⟨by omega, by omega, h3⟩
theorem ag_bsf {M M' O O' : Nat → Nat} (h : ag M M') (hO : ∀ k, k < 24 → O k = O' k) : ∀ {k : Nat}, k ≤ 49 → bsf M O k = bsf M' O' k
  | 0, _ => rfl
  | k + 1, hk => by
    rw [bsf_s, bsf_s, ag_bsf h hO (k := k) (by omega), ag_rs h hO (show k / 7 < 7 by omega) (show k % 7 < 7 by omega), ag_es h (O := swO O (k / 7) (k % 7)) (O' := swO O' (k / 7) (k % 7)) (fun j hj => by unfold swO; rw [hO j hj])]
theorem sh_sw (M O : Nat → Nat) (a b c d : Nat) : sh M (swO O a b) c d = sh M O c (swp a b d) := sm_c (fun k hk => by
  show (if swp a b (O k) = d then wr M c k else 0) = (if O k = swp a b d then wr M c k else 0)
  by_cases e : swp a b (O k) = d
  · rw [if_pos e, if_pos (by rw [← e, swp_swp])]
  · rw [if_neg e, if_neg (fun q => e (by rw [q, swp_swp]))])
/-- after n best trades -/
def stO (M O : Nat → Nat) : Nat → Nat → Nat
  | 0 => O
  | n + 1 => swO (stO M O n) ((bsf M (stO M O n) 49).1 / 10) ((bsf M (stO M O n) 49).1 % 10)
def stq (M O : Nat → Nat) (n : Nat) : Prop := (∀ j, j < n → ¬ (bsf M (stO M O j) 49).1 = 0) ∧ (bsf M (stO M O n) 49).1 = 0
theorem stq_1 {M O : Nat → Nat} {n n' : Nat} (h : stq M O n) (h' : stq M O n') : n = n' := by
  rcases Nat.lt_trichotomy n n' with q | q | q
  · exact absurd h.2 (h'.1 n q)
  · exact q
  · exact absurd h'.2 (h.1 n' q)
/-- how many shares each would rather have -/
def rk (M O : Nat → Nat) : Nat := sm (fun c => sm (fun d => bb (sh M O c c < sh M O c d)) 7) 7
theorem sm_swp (f : Nat → Nat) : ∀ a, a < 7 → ∀ b, b < 7 → sm (fun d => f (swp a b d)) 7 = sm f 7 := by
  intro a ha b hb
  rcases (show a = 0 ∨ a = 1 ∨ a = 2 ∨ a = 3 ∨ a = 4 ∨ a = 5 ∨ a = 6 by omega) with rfl | rfl | rfl | rfl | rfl | rfl | rfl <;>
  rcases (show b = 0 ∨ b = 1 ∨ b = 2 ∨ b = 3 ∨ b = 4 ∨ b = 5 ∨ b = 6 by omega) with rfl | rfl | rfl | rfl | rfl | rfl | rfl <;>
  (simp only [sm, swp]; simp; try omega)
theorem sm_add (f g : Nat → Nat) : ∀ n, sm (fun k => f k + g k) n = sm f n + sm g n
  | 0 => rfl
  | n + 1 => by rw [sm_s, sm_s, sm_s, sm_add f g n]; omega
theorem sm_cle {f g : Nat → Nat} : ∀ {n : Nat}, (∀ k, k < n → f k ≤ g k) → sm f n ≤ sm g n
  | 0, _ => Nat.le_refl _
  | n + 1, h => by
    rw [sm_s, sm_s]
    have h1 := sm_cle (n := n) (fun k hk => h k (by omega))
    have h2 := h n (Nat.lt_succ_self n)
    omega
theorem rk_e : ∀ a, a < 7 → ∀ b, b < 7 → a ≠ b → sm (fun c => (if c = a then 1 else 0) + (if c = b then 1 else 0)) 7 = 2 := by decide +kernel
theorem rk_in (s : Nat → Nat) {x y : Nat} (hy : y < 7) (h : s x < s y) : sm (fun d => bb (s y < s d)) 7 + 1 ≤ sm (fun d => bb (s x < s d)) 7 := by
  refine sm_lt (m := y) (fun k _ => bb_le (fun q => by omega)) hy ?_
  show bb (s y < s y) < bb (s x < s y)
  rw [bb_f (Nat.lt_irrefl _), bb_t h]; exact Nat.one_pos
theorem rk_sw {M O : Nat → Nat} {a b : Nat} (ha : a < 7) (hb : b < 7) (hab : a ≠ b) (h : rs M O a b = 0) : rk M (swO O a b) + 2 ≤ rk M O := by
  have h1 : sh M O a a < sh M O a b ∧ sh M O b b < sh M O b a := by
    unfold rs at h
    split at h
    · omega
    · split at h
      · split at h
        · exact ⟨by assumption, by assumption⟩
        · omega
      · omega
  have e2 := rk_e a ha b hb hab
  unfold rk
  rw [← e2, ← sm_add]
  refine sm_cle (fun c hc => ?_)
  have e : sm (fun d => bb (sh M (swO O a b) c c < sh M (swO O a b) c d)) 7 = sm (fun d => bb (sh M O c (swp a b c) < sh M O c d)) 7 := by
    rw [← sm_swp (fun d => bb (sh M O c (swp a b c) < sh M O c d)) a ha b hb]
    exact sm_c (fun d _ => by rw [sh_sw, sh_sw])
  show sm (fun d => bb (sh M (swO O a b) c c < sh M (swO O a b) c d)) 7 + ((if c = a then 1 else 0) + (if c = b then 1 else 0)) ≤ sm (fun d => bb (sh M O c c < sh M O c d)) 7
  rw [e]
  by_cases ca : c = a
  · subst ca
    rw [if_pos rfl, if_neg hab]
    have es : swp c b c = b := by unfold swp; rw [if_pos rfl]
    rw [es]
    exact rk_in (sh M O c) hb h1.1
  · rw [if_neg ca]
    by_cases cb : c = b
    · subst cb
      rw [if_pos rfl]
      have es : swp a c c = a := by unfold swp; rw [if_neg ca, if_pos rfl]
      rw [es]
      have := rk_in (sh M O c) ha h1.2
      omega
    · rw [if_neg cb]
      have es : swp a b c = c := by unfold swp; rw [if_neg ca, if_neg cb]
      rw [es]; omega
theorem rk_st {M O : Nat → Nat} {n : Nat} (h : ¬ (bsf M (stO M O n) 49).1 = 0) : rk M (stO M O (n + 1)) + 2 ≤ rk M (stO M O n) := by
  obtain ⟨h1, h2, h3⟩ := bsf_b h
  exact rk_sw (by omega) h2 (by omega) h3
theorem rk_le (M O : Nat → Nat) : rk M O ≤ 42 := by
  have h : ∀ c, c < 7 → sm (fun d => bb (sh M O c c < sh M O c d)) 7 ≤ 6 := by
    intro c hc
    have e := sm_lt (f := fun d => bb (sh M O c c < sh M O c d)) (g := fun _ => 1) (m := c) (n := 7) (fun k _ => by have := @bb_lt (sh M O c c < sh M O c k) _; show bb _ ≤ 1; omega) hc (by show bb (sh M O c c < sh M O c c) < 1; rw [bb_f (Nat.lt_irrefl _)]; exact Nat.one_pos)
    have e2 : sm (fun _ => 1) 7 = 7 := rfl
    omega
  exact sm_le (f := fun c => sm (fun d => bb (sh M O c c < sh M O c d)) 7) (b := 6) (n := 7) h
theorem trA_dvM (M : Nat → Nat) (p : Nat) (O : Nat → Nat) (t u c d : Nat) : trA (dvM M p O t u) p c d 24 = dvM M p (swO O c d) t u := by
  funext j; unfold trA dvM swO
  by_cases h : p + 96 ≤ j ∧ j < p + 120
  · rw [if_pos (by omega), if_pos h, if_pos h]
  · rw [if_neg (by omega), if_neg h, if_neg h]
theorem stO_lt {M O : Nat → Nat} (hO : ∀ k, k < 24 → O k < 8) : ∀ {n : Nat}, (∀ j, j < n → ¬ (bsf M (stO M O j) 49).1 = 0) → ∀ k, k < 24 → stO M O n k < 8
  | 0, _ => hO
  | n + 1, h => fun k hk => by
    have i := stO_lt hO (n := n) (fun j hj => h j (by omega)) k hk
    obtain ⟨h1, h2, -⟩ := bsf_b (h n (Nat.lt_succ_self n))
    exact swp_lt (by omega) (by omega) i
theorem bsf_2 {M O : Nat → Nat} (h : ok M) : ∀ (k : Nat), (bsf M O k).2 ≤ 723975
  | 0 => Nat.zero_le _
  | k + 1 => by
    have ih := bsf_2 (O := O) h k
    rw [bsf_s]
    split
    · split
      · exact es_le h
      · exact ih
    · exact ih
theorem trA_ok {M : Nat → Nat} (h : ok M) {p c d : Nat} (hp : p = 0 ∨ p = 202) (hc : c < 8) (hd : d < 8) : ok (trA M p c d 24) := by
  have e : ∀ j, j < 199 → (j < 96 ∨ 120 ≤ j) → trA M p c d 24 j = M j := fun j h1 h2 => (trA_ag M p c d hp j h1 h2).symm
  obtain ⟨h1, h2, h3, h4, h5, h6, h7⟩ := h
  refine ⟨fun j hj => by rw [e j (by omega) (by omega)]; exact h1 j hj, fun j hj => ?_, fun j hj => by rw [e (120 + j) (by omega) (by omega)]; exact h3 j hj, fun j hj => by rw [e (148 + j) (by omega) (by omega)]; exact h4 j hj, by rw [e 197 (by omega) (by omega)]; exact h5, by rw [e 198 (by omega) (by omega)]; exact h6, by rw [e 198 (by omega) (by omega)]; exact h7⟩
  unfold trA
  split
  · exact swp_lt hc hd (h2 j hj)
  · exact h2 j hj
theorem dvM_x (M : Nat → Nat) (p : Nat) (O : Nat → Nat) {j : Nat} (h : p + 120 ≤ j) : dvM M p O 0 0 j = M j := by
  unfold dvM; rw [if_neg (by omega), md_0]
