/-! sums, and the states behind a division, a trade, a settling -/
theorem sm_z : ∀ (m : Nat), sm (fun _ => 0) m = 0
  | 0 => rfl
  | m + 1 => by rw [sm_s, sm_z m]
theorem sm_comm (f : Nat → Nat → Nat) (m : Nat) : ∀ (n : Nat), sm (fun d => sm (fun c => f c d) m) n = sm (fun c => sm (fun d => f c d) n) m
  | 0 => (sm_z m).symm
  | n + 1 => by
    rw [sm_s, sm_comm f m n]
    exact (sm_add (fun c => sm (fun d => f c d) n) (fun c => f c n) m).symm
theorem es_9 (M O : Nat → Nat) {c : Nat} (hc : c < 7) : es M O (2 ^ c) 127 = sm (fun d => ev M O c d) 7 := (es_1 M O hc).symm.trans (sm_c (f := fun d => if bt 127 d = 1 then ev M O c d else 0) (fun d hd => by
  show (if bt 127 d = 1 then ev M O c d else 0) = ev M O c d
  rw [if_pos (bt_127 d hd)]))
theorem es_A (M O : Nat → Nat) : sm (fun c => es M O (2 ^ c) 127) 7 = es M O 127 127 := by
  rw [es_ea]
  refine sm_c (fun c hc => ?_)
  show es M O (2 ^ c) 127 = (if bt 127 c = 1 then ea M O c 127 7 else 0)
  rw [if_pos (bt_127 c hc)]; exact (es_1 M O hc).symm
theorem es_B (M O : Nat → Nat) : sm (fun c => es M O 127 (2 ^ c)) 7 = es M O 127 127 := by
  have h1 : sm (fun d => es M O 127 (2 ^ d)) 7 = sm (fun d => sm (fun c => ev M O c d) 7) 7 := sm_c (fun d hd => (es_2 M O hd).symm)
  have h2 : sm (fun c => es M O (2 ^ c) 127) 7 = sm (fun c => sm (fun d => ev M O c d) 7) 7 := sm_c (fun c hc => es_9 M O hc)
  rw [h1, ← es_A, h2]; exact sm_comm (fun c d => ev M O c d) 7 7
theorem bsf_td (M O : Nat → Nat) : ∀ (k : Nat), (bsf M O k).1 = 0 ↔ td M O k = 0
  | 0 => ⟨fun _ => rfl, fun _ => rfl⟩
  | k + 1 => by
    have ih := bsf_td M O k
    have ht : td M O (k + 1) = td M O k + bb (¬ k % 7 ≤ k / 7 ∧ rs M O (k / 7) (k % 7) = 0) := rfl
    rw [bsf_s, ht]
    by_cases h : ¬ (k % 7 ≤ k / 7) ∧ rs M O (k / 7) (k % 7) = 0
    · rw [if_pos h, bb_t h]
      have h1 := h.1
      split
      · exact ⟨fun q => by dsimp only at q; omega, fun q => by omega⟩
      · next q => exact ⟨fun z => absurd (Or.inl z) q, fun z => by omega⟩
    · rw [if_neg h, bb_f h]; exact ih
theorem bT_lt (M : Nat → Nat) : (bT M).1 < 67 := bsf_lt M (ow M 0) (Nat.le_refl 49)
theorem bT_td (M : Nat → Nat) : nbI (bT M).1 = -5 ↔ td M (ow M 0) 49 = 0 := (nbI_5 (Nat.lt_trans (bT_lt M) (by decide))).trans (bsf_td M (ow M 0) 49)
theorem td_le (M O : Nat → Nat) {n : Nat} : td M O n ≤ n := by
  have := sm_le (f := fun k => bb (¬ k % 7 ≤ k / 7 ∧ rs M O (k / 7) (k % 7) = 0)) (b := 1) (n := n) (fun k _ => by
    have := @bb_lt (¬ k % 7 ≤ k / 7 ∧ rs M O (k / 7) (k % 7) = 0) _
    show bb _ ≤ 1
    omega)
  show sm _ n ≤ n
  omega
theorem rs_0 {M O : Nat → Nat} {c d : Nat} (h : rs M O c d = 0) : sh M O c c < sh M O c d ∧ sh M O d d < sh M O d c ∧ ¬ M 198 ≤ gr M c d ∧ ¬ M 198 ≤ gr M d c := by
  unfold rs at h
  split at h
  · omega
  · next q =>
    split at h
    · split at h
      · exact ⟨by assumption, by assumption, fun z => q (Or.inl z), fun z => q (Or.inr z)⟩
      · omega
    · omega
theorem rs_y {M O : Nat → Nat} {c d : Nat} (h1 : sh M O c c < sh M O c d) (h2 : sh M O d d < sh M O d c) (h3 : ¬ M 198 ≤ gr M c d) (h4 : ¬ M 198 ≤ gr M d c) : rs M O c d = 0 := by
  unfold rs; rw [if_neg (fun q => q.elim h3 h4), if_pos h1, if_pos h2]
theorem rs_sy {M O : Nat → Nat} {c d : Nat} (h : rs M O c d = 0) : rs M O d c = 0 := by
  obtain ⟨h1, h2, h3, h4⟩ := rs_0 h
  exact rs_y h2 h1 h4 h3
theorem swO_c (O : Nat → Nat) (a b : Nat) : swO O a b = swO O b a := by
  funext k; unfold swO swp
  by_cases h1 : O k = a
  · by_cases h2 : O k = b
    · rw [if_pos h1, if_pos h2]; omega
    · rw [if_pos h1, if_neg h2, if_pos h1]
  · by_cases h2 : O k = b
    · rw [if_neg h1, if_pos h2, if_pos h2]
    · rw [if_neg h1, if_neg h2, if_neg h2, if_neg h1]
-- a division
theorem dM_ow {M : Nat → Nat} {A k : Nat} (hk : k < 24) : ow (dM M A) 0 k = dO M A k := dvM_in M 0 (dO M A) (dT_ M A) (dU M A) hk
theorem dM_ev {M : Nat → Nat} {A c d : Nat} (hc : c < 7) (hd : d < 7) : ev (dM M A) (ow (dM M A) 0) c d = ev M (dO M A) c d := ag_ev (ag_s (dM_ag M A)) (fun _ hk => dM_ow hk) hc hd
theorem dM_es {M : Nat → Nat} {A B C : Nat} : es (dM M A) (ow (dM M A) 0) B C = es M (dO M A) B C := ag_es (ag_s (dM_ag M A)) (fun _ hk => dM_ow hk)
theorem dM_wr {M : Nat → Nat} {A c k : Nat} (hc : c < 7) (hk : k < 24) : wr (dM M A) c k = wr M c k := ag_wr (ag_s (dM_ag M A)) hc hk
theorem dM_pc {M : Nat → Nat} {A d : Nat} : pc4 (ow (dM M A) 0) d = pc4 (dO M A) d := sm_c (fun k hk => by
  show bb (ow (dM M A) 0 k = d) = bb (dO M A k = d)
  rw [dM_ow hk])
theorem rst_ut {M Od : Nat → Nat} {a left : Nat} : ∀ {k : Nat}, (rst M Od a left k).2.2.2 ≤ (rst M Od a left k).2.2.1
  | 0 => Nat.le_refl _
  | k + 1 => by
    have ih := rst_ut (M := M) (Od := Od) (a := a) (left := left) (k := k)
    rw [rst_s]
    split
    · unfold rstp
      split
      · dsimp only; omega
      · split
        · dsimp only; omega
        · split
          · dsimp only; omega
          · dsimp only; omega
    · omega
theorem dvs_tu (M O : Nat → Nat) (A : Nat) : ∀ (n : Nat), (dvs M O A n).2.2.2.2 ≤ (dvs M O A n).2.2.2.1 ∧ (dvs M O A n).2.2.2.1 ≤ 7 * n
  | 0 => ⟨Nat.le_refl _, Nat.le_refl _⟩
  | n + 1 => by
    have ih := dvs_tu M O A n
    have h1 := rst_ut (M := M) (Od := io M) (a := (dvs M O A n).2.1) (left := (dvs M O A n).1) (k := 7)
    have h2 := rst_tu (M := M) (Od := io M) (a := (dvs M O A n).2.1) (left := (dvs M O A n).1) (k := 7)
    show (dvs M O A n).2.2.2.2 + (rst M (io M) (dvs M O A n).2.1 (dvs M O A n).1 7).2.2.2 ≤ (dvs M O A n).2.2.2.1 + (rst M (io M) (dvs M O A n).2.1 (dvs M O A n).1 7).2.2.1 ∧ (dvs M O A n).2.2.2.1 + (rst M (io M) (dvs M O A n).2.1 (dvs M O A n).1 7).2.2.1 ≤ 7 * (n + 1)
    omega
theorem dT_le (M : Nat → Nat) (A : Nat) : dT_ M A ≤ 42 := by
  have h := (dvs_tu M (ow M 0) A (on A - 1)).2
  have := on_le A
  show (dvs M (ow M 0) A (on A - 1)).2.2.2.1 ≤ 42
  omega
theorem dU_le (M : Nat → Nat) (A : Nat) : dU M A ≤ dT_ M A := (dvs_tu M (ow M 0) A (on A - 1)).1
theorem dM_iv {n A : Nat} {M : Nat → Nat} (hv : q_iv n M) (h0 : 0 < A) (hA : A < 128) : q_iv (n + 42) (dM M A) := by
  have h1 := dT_le M A
  have h2 := dU_le M A
  obtain ⟨v1, v2, v3, v4, v5⟩ := hv
  refine ⟨dM_ok v1 h0 hA, ?_, ?_, ?_, fun c hc => ?_⟩
  · rw [dM_199, dM_200]; omega
  · rw [dM_199]; omega
  · rw [dM_201]; omega
  · rw [← ag_gr (dM_ag M A) hc hc]; exact v5 c hc
-- a trade
theorem tM_ow {M : Nat → Nat} {a b k : Nat} (hk : k < 24) : ow (tM M a b) 0 k = swO (ow M 0) a b k := tr1_ow M a b (M 201 + 1) hk
theorem tM_es {M : Nat → Nat} {a b A B : Nat} : es (tM M a b) (ow (tM M a b) 0) A B = es M (swO (ow M 0) a b) A B := ag_es (ag_s (tM_ag M a b)) (fun _ hk => tM_ow hk)
theorem tM_sh {M : Nat → Nat} {a b c d : Nat} (hc : c < 7) : sh (tM M a b) (ow (tM M a b) 0) c d = sh M (ow M 0) c (swp a b d) := (ag_sh (ag_s (tM_ag M a b)) (fun _ hk => tM_ow hk) hc).trans (sh_sw M (ow M 0) a b c d)
theorem tM_s1 {M : Nat → Nat} {a b : Nat} (ha : a < 7) : sh (tM M a b) (ow (tM M a b) 0) a a = sh M (ow M 0) a b := by
  rw [tM_sh ha, show swp a b a = b from if_pos rfl]
theorem tM_s2 {M : Nat → Nat} {a b : Nat} (hb : b < 7) : sh (tM M a b) (ow (tM M a b) 0) b b = sh M (ow M 0) b a := by
  rw [tM_sh hb]
  have e : swp a b b = a := by
    unfold swp
    by_cases h : b = a
    · rw [if_pos h]; exact h
    · rw [if_neg h, if_pos rfl]
  rw [e]
theorem tM_iv {n a b : Nat} {M : Nat → Nat} (hv : q_iv n M) (ha : a < 7) (hb : b < 7) : q_iv (n + 1) (tM M a b) := by
  obtain ⟨v1, v2, v3, v4, v5⟩ := hv
  refine ⟨tM_ok v1 ha hb, ?_, ?_, ?_, fun c hc => ?_⟩
  · rw [tM_199, tM_200]; exact v2
  · rw [tM_199]; omega
  · rw [tM_201]; omega
  · rw [← ag_gr (tM_ag M a b) hc hc]; exact v5 c hc
-- a settling
theorem stq_0 {M O : Nat → Nat} {n : Nat} (hq : stq M O n) (hn : ¬ (bsf M O 49).1 = 0) : ¬ n = 0 := fun e => by
  subst e; exact hn hq.2
theorem stq_21 {M : Nat → Nat} {n : Nat} (hq : stq M (ow M 0) n) : n ≤ 21 := by
  have := sM_rk hq.1
  omega
theorem sM_199 (M : Nat → Nat) (n : Nat) : sM M n 199 = M 199 := by
  unfold sM; rw [up_ne (by decide)]; exact dvM_x M 0 _ (by decide)
theorem sM_200 (M : Nat → Nat) (n : Nat) : sM M n 200 = M 200 := by
  unfold sM; rw [up_ne (by decide)]; exact dvM_x M 0 _ (by decide)
theorem sM_201 (M : Nat → Nat) (n : Nat) : sM M n 201 = M 201 + n := up_eq _ _ _
theorem sM_b {M : Nat → Nat} {n : Nat} (hq : stq M (ow M 0) n) : (bsf (sM M n) (ow (sM M n) 0) 49).1 = 0 := by
  rw [ag_bsf (ag_s (sM_ag M n)) (fun k hk => sM_ow M n hk) (Nat.le_refl 49)]; exact hq.2
theorem sM_td {M : Nat → Nat} {n : Nat} (hq : stq M (ow M 0) n) : td (sM M n) (ow (sM M n) 0) 49 = 0 := (bsf_td _ _ 49).mp (sM_b hq)
theorem sM_be {M : Nat → Nat} {n : Nat} (hq : stq M (ow M 0) n) : aBest (sM M n) (nI 1) = -5 := be_1.trans (if_pos (sM_b hq))
theorem sM_iv {n k : Nat} {M : Nat → Nat} (hv : q_iv n M) (hq : stq M (ow M 0) k) : q_iv (n + 21) (sM M k) := by
  have hk := stq_21 hq
  obtain ⟨v1, v2, v3, v4, v5⟩ := hv
  refine ⟨sM_ok v1 hq.1, ?_, ?_, ?_, fun c hc => ?_⟩
  · rw [sM_199, sM_200]; exact v2
  · rw [sM_199]; omega
  · rw [sM_201]; omega
  · rw [← ag_gr (sM_ag M k) hc hc]; exact v5 c hc
-- without one
theorem rm127 : ∀ c, c < 7 → 2 ^ c ≤ 127 ∧ 127 - 2 ^ c = rmv 127 c := by decide +kernel
theorem bt_r127 : ∀ c, c < 7 → ∀ i, i < 7 → (bt (rmv 127 c) i = 1 ↔ ¬ i = c) := by decide +kernel
def wt (M : Nat → Nat) (c k : Nat) : Nat := if k / 7 = c then 0 else if k % 7 = c then 0 else if k / 7 = k % 7 then 0 else ev M (dO M (rmv 127 c)) (k / 7) (k % 7)
theorem wt_e (M : Nat → Nat) {c : Nat} (hc : c < 7) : sm (wt M c) 49 = wE M c := sm_c (g := fun k => if bt (rmv 127 c) (k / 7) = 1 ∧ bt (rmv 127 c) (k % 7) = 1 then ev M (dO M (rmv 127 c)) (k / 7) (k % 7) else 0) (fun k hk => by
  have h1 := bt_r127 c hc (k / 7) (by omega)
  have h2 := bt_r127 c hc (k % 7) (by omega)
  show wt M c k = (if bt (rmv 127 c) (k / 7) = 1 ∧ bt (rmv 127 c) (k % 7) = 1 then ev M (dO M (rmv 127 c)) (k / 7) (k % 7) else 0)
  unfold wt
  by_cases a : k / 7 = c
  · rw [if_pos a, if_neg (fun q => (h1.mp q.1) a)]
  · rw [if_neg a]
    by_cases b : k % 7 = c
    · rw [if_pos b, if_neg (fun q => (h2.mp q.2) b)]
    · have h3 : bt (rmv 127 c) (k / 7) = 1 ∧ bt (rmv 127 c) (k % 7) = 1 := ⟨h1.mpr a, h2.mpr b⟩
      rw [if_neg b, if_pos h3]
      by_cases d : k / 7 = k % 7
      · rw [if_pos d]; unfold ev; rw [if_pos d]
      · rw [if_neg d])
theorem wt_le {M : Nat → Nat} (h0 : ok M) {c k : Nat} (hk : k ≤ 49) : sm (wt M c) k ≤ 723975 := by
  have h := sm_le (f := wt M c) (b := 14775) (n := k) (fun j hj => by
    unfold wt
    split
    · omega
    · split
      · omega
      · split
        · omega
        · exact ev_le h0 (by omega) (by omega))
  omega
def wB (M : Nat → Nat) : Nat → Int32
  | 0 => -1
  | n + 1 => nI (bW M n).1
def wL (M : Nat → Nat) : Nat → Nat
  | 0 => 0
  | n + 1 => (bW M n).2
theorem bWz_1 (M : Nat → Nat) : ∀ (n : Nat), (bW M n).1 ≤ n
  | 0 => Nat.le_refl _
  | n + 1 => by
    have ih := bWz_1 M n
    show (if wE M (n + 1) < (bW M n).2 then (n + 1, wE M (n + 1)) else bW M n).1 ≤ n + 1
    split
    · exact Nat.le_refl _
    · omega
theorem wL_le {M : Nat → Nat} (h0 : ok M) : ∀ (n : Nat), wL M n ≤ 723975
  | 0 => Nat.zero_le _
  | n + 1 => bW_2 h0 n
theorem wB_p {M : Nat → Nat} {n : Nat} (hn : n < 100) : ¬ wB M (n + 1) < 0 := nI_pos (by have := bWz_1 M n; omega)
theorem wB_y {M : Nat → Nat} {c : Nat} (hc : c < 100) (h : wB M c < 0 ∨ ¬ wL M c ≤ wE M c) : wB M (c + 1) = nI c ∧ wL M (c + 1) = wE M c := by
  cases c with
  | zero => exact ⟨rfl, rfl⟩
  | succ n =>
    have h2 : wE M (n + 1) < (bW M n).2 := by
      rcases h with q | q
      · exact absurd q (wB_p (by omega))
      · have q : ¬ (bW M n).2 ≤ wE M (n + 1) := q
        omega
    have e : bW M (n + 1) = (n + 1, wE M (n + 1)) := if_pos h2
    exact ⟨by show nI (bW M (n + 1)).1 = _; rw [e], by show (bW M (n + 1)).2 = _; rw [e]⟩
theorem wB_n {M : Nat → Nat} {c : Nat} (h1 : ¬ wB M c < 0) (h2 : wL M c ≤ wE M c) : wB M (c + 1) = wB M c ∧ wL M (c + 1) = wL M c := by
  cases c with
  | zero => exact absurd (by decide : (-1 : Int32) < 0) h1
  | succ n =>
    have h2 : (bW M n).2 ≤ wE M (n + 1) := h2
    have e : bW M (n + 1) = bW M n := if_neg (by omega)
    exact ⟨by show nI (bW M (n + 1)).1 = nI (bW M n).1; rw [e], by show (bW M (n + 1)).2 = (bW M n).2; rw [e]⟩
