/-! how a division lies: who holds a piece gets it, and the rest begins behind it -/
theorem bt_rmv_d : ∀ L, L < 128 → ∀ c, c < 7 → ∀ x, x < 7 → (bt (rmv L c) x = 1 ↔ (bt L x = 1 ∧ ¬ x = c)) := by decide +kernel
def stD (M : Nat → Nat) (A n : Nat) : Nat := (dvs M (ow M 0) A n).2.1
def lfD (M : Nat → Nat) (A n : Nat) : Nat := (dvs M (ow M 0) A n).1
def hdD (M : Nat → Nat) (A n : Nat) : Nat := (dvr M (dvs M (ow M 0) A n)).1
def qnD (M : Nat → Nat) (A n : Nat) : Nat := (dvr M (dvs M (ow M 0) A n)).2.1
def owD (M : Nat → Nat) (A n : Nat) : Nat → Nat := (dvs M (ow M 0) A n).2.2.1
theorem stD_s (M : Nat → Nat) (A n : Nat) : stD M A (n + 1) = stD M A n + qnD M A n := rfl
theorem lfD_s (M : Nat → Nat) (A n : Nat) : lfD M A (n + 1) = rmv (lfD M A n) (hdD M A n) := rfl
theorem owD_s (M : Nat → Nat) (A n k : Nat) : owD M A (n + 1) k = (if stD M A n ≤ k ∧ k < stD M A n + qnD M A n then hdD M A n else owD M A n k) := rfl
theorem dO_s (M : Nat → Nat) (A k : Nat) : dO M A k = (if stD M A (on A - 1) ≤ k ∧ k < 24 then dL M A else owD M A (on A - 1) k) := rfl
section DIVS
variable {M : Nat → Nat} {A : Nat}
theorem lfD_i (h0 : ok M) (hA : A < 128) {n : Nat} (hn : n + 1 ≤ on A) : lfD M A n < 128 ∧ on (lfD M A n) + n = on A ∧ stD M A n ≤ 24 :=
  have h := dvs_i h0 hA (ok_ow h0) hn
  ⟨h.1, h.2.1, h.2.2.1⟩
theorem hdD_i (h0 : ok M) (hA : A < 128) {n : Nat} (hn : n + 1 ≤ on A) : hdD M A n < 7 ∧ bt (lfD M A n) (hdD M A n) = 1 ∧ stD M A n + qnD M A n ≤ 24 := dvr_h h0 hA (ok_ow h0) hn
theorem dL_i (h0 : ok M) (hA0 : 0 < A) (hA : A < 128) : dL M A < 7 ∧ bt (lfD M A (on A - 1)) (dL M A) = 1 := by
  have hon := on_p A hA hA0
  have hi := lfD_i h0 hA (n := on A - 1) (by omega)
  have h := lb_d (lfD M A (on A - 1)) hi.1 (by omega)
  exact ⟨h.1, h.2.1⟩
theorem ownD_m {n k : Nat} (h1 : stD M A n ≤ k) (h2 : k < stD M A (n + 1)) : ∀ (j : Nat), k < stD M A (n + 1 + j) ∧ owD M A (n + 1 + j) k = hdD M A n
  | 0 => ⟨h2, (owD_s M A n k).trans (if_pos ⟨h1, by rw [← stD_s]; exact h2⟩)⟩
  | j + 1 => by
    have ih := ownD_m h1 h2 j
    have e := stD_s M A (n + 1 + j)
    refine ⟨?_, ?_⟩
    · show k < stD M A (n + 1 + j + 1)
      omega
    · show owD M A (n + 1 + j + 1) k = _
      rw [owD_s, if_neg (by omega)]; exact ih.2
theorem dO_r {n k : Nat} (hn : n + 1 ≤ on A - 1) (h1 : stD M A n ≤ k) (h2 : k < stD M A (n + 1)) : dO M A k = hdD M A n := by
  obtain ⟨j, hj⟩ : ∃ j, on A - 1 = n + 1 + j := ⟨on A - 1 - (n + 1), by omega⟩
  have h := ownD_m h1 h2 j
  rw [dO_s, hj, if_neg (by omega)]; exact h.2
theorem dO_l {k : Nat} (h : stD M A (on A - 1) ≤ k) (hk : k < 24) : dO M A k = dL M A := (dO_s M A k).trans (if_pos ⟨h, hk⟩)
theorem lf_mono (h0 : ok M) (hA : A < 128) {n : Nat} : ∀ (j : Nat), n + j + 1 ≤ on A → ∀ x, x < 7 → bt (lfD M A (n + j)) x = 1 → bt (lfD M A n) x = 1
  | 0, _, _, _, h => h
  | j + 1, hj, x, hx, h => by
    have hi := lfD_i h0 hA (n := n + j) (by omega)
    have hh := hdD_i h0 hA (n := n + j) (by omega)
    have h : bt (rmv (lfD M A (n + j)) (hdD M A (n + j))) x = 1 := h
    exact lf_mono h0 hA j (by omega) x hx ((bt_rmv_d _ hi.1 _ hh.1 x hx).mp h).1
theorem own_in (h0 : ok M) (hA0 : 0 < A) (hA : A < 128) : ∀ (j n : Nat), n + j + 1 = on A → ∀ k, stD M A n ≤ k → k < 24 → dO M A k < 7 ∧ bt (lfD M A n) (dO M A k) = 1
  | 0, n, hj, k, h1, h2 => by
    have hl := dL_i h0 hA0 hA
    have e : n = on A - 1 := by omega
    subst e
    rw [dO_l h1 h2]; exact hl
  | j + 1, n, hj, k, h1, h2 => by
    have hh := hdD_i h0 hA (n := n) (by omega)
    rcases Nat.lt_or_ge k (stD M A (n + 1)) with q | q
    · rw [dO_r (by omega) h1 q]; exact ⟨hh.1, hh.2.1⟩
    · have ih := own_in h0 hA0 hA j (n + 1) (by omega) k q h2
      exact ⟨ih.1, lf_mono h0 hA 1 (by omega) _ ih.1 ih.2⟩
theorem dO_in (h0 : ok M) (hA0 : 0 < A) (hA : A < 128) {k : Nat} (hk : k < 24) : dO M A k < 7 ∧ bt A (dO M A k) = 1 := by
  have hon := on_p A hA hA0
  exact own_in h0 hA0 hA (on A - 1) 0 (by omega) k (Nat.zero_le _) hk
theorem dL_in (h0 : ok M) (hA0 : 0 < A) (hA : A < 128) : bt A (dL M A) = 1 := by
  have hon := on_p A hA hA0
  have hl := dL_i h0 hA0 hA
  have h := lf_mono h0 hA (n := 0) (on A - 1) (by omega) (dL M A) hl.1
  rw [Nat.zero_add] at h
  exact h hl.2
theorem dseg (h0 : ok M) (hA0 : 0 < A) (hA : A < 128) : ∀ (j n : Nat), n + j + 1 = on A → ∀ t, stD M A n < 24 → stD M A n ≤ t → t ≤ 24 → (∀ k, stD M A n ≤ k → k < t → dO M A k = dO M A (stD M A n)) → (t = 24 ∨ ¬ dO M A t = dO M A (stD M A n)) → (dO M A (stD M A n) = dL M A ∧ t = 24) ∨ ∃ m, n ≤ m ∧ m + 1 ≤ on A - 1 ∧ stD M A m = stD M A n ∧ stD M A (m + 1) = t ∧ stD M A m < stD M A (m + 1) ∧ dO M A (stD M A n) = hdD M A m ∧ ¬ hdD M A m = dL M A
  | 0, n, hj, t, h1, h2, h3, h4, h5 => by
    have e : n = on A - 1 := by omega
    subst e
    have e1 := dO_l (M := M) (A := A) (Nat.le_refl _) h1
    refine Or.inl ⟨e1, ?_⟩
    rcases h5 with q | q
    · exact q
    · rcases Nat.lt_or_ge t 24 with z | z
      · exact absurd ((dO_l h2 z).trans e1.symm) q
      · omega
  | j + 1, n, hj, t, h1, h2, h3, h4, h5 => by
    have hh := hdD_i h0 hA (n := n) (by omega)
    have es := stD_s M A n
    by_cases hq : qnD M A n = 0
    · have e : stD M A (n + 1) = stD M A n := by omega
      have ih := dseg h0 hA0 hA j (n + 1) (by omega) t (by rw [e]; exact h1) (by rw [e]; exact h2) h3 (by rw [e]; exact h4) (by rw [e]; exact h5)
      rw [e] at ih
      rcases ih with q | ⟨m, m1, m2, m3, m4⟩
      · exact Or.inl q
      · exact Or.inr ⟨m, by omega, m2, m3, m4⟩
    · have ed : dO M A (stD M A n) = hdD M A n := dO_r (by omega) (Nat.le_refl _) (by omega)
      refine Or.inr ⟨n, Nat.le_refl _, by omega, rfl, ?_, by omega, ed, ?_⟩
      · rcases Nat.lt_trichotomy t (stD M A (n + 1)) with q | q | q
        · exfalso
          rcases h5 with z | z
          · omega
          · exact z ((dO_r (by omega) h2 q).trans ed.symm)
        · exact q.symm
        · exfalso
          have h6 := h4 (stD M A (n + 1)) (by omega) q
          have h7 := own_in h0 hA0 hA j (n + 1) (by omega) (stD M A (n + 1)) (Nat.le_refl _) (by omega)
          rw [h6, ed] at h7
          have h8 : bt (rmv (lfD M A n) (hdD M A n)) (hdD M A n) = 1 := h7.2
          exact ((bt_rmv_d _ (lfD_i h0 hA (n := n) (by omega)).1 _ hh.1 _ hh.1).mp h8).2 rfl
      · intro z
        have hl := dL_i h0 hA0 hA
        obtain ⟨i, hi⟩ : ∃ i, on A - 1 = n + 1 + i := ⟨on A - 1 - (n + 1), by omega⟩
        have h9 := lf_mono h0 hA (n := n + 1) i (by omega) (dL M A) hl.1 (by rw [← hi]; exact hl.2)
        have h8 : bt (rmv (lfD M A n) (hdD M A n)) (dL M A) = 1 := h9
        exact ((bt_rmv_d _ (lfD_i h0 hA (n := n) (by omega)).1 _ hh.1 _ hl.1).mp h8).2 z.symm
-- fair pieces
theorem fp_min {c n a : Nat} : ∀ (f z z' : Nat), z ≤ z' → z' < fpF M c n a f z → sr (wr M c) a z' * n < wf M c a
  | 0, z, z', h1, h2 => by
    have h2 : z' < z := h2
    omega
  | f + 1, z, z', h1, h2 => by
    have h2 : z' < (if sr (wr M c) a z * n < wf M c a then fpF M c n a f (z + 1) else z) := h2
    split at h2
    · next q =>
      rcases Nat.lt_or_ge z z' with w | w
      · exact fp_min f (z + 1) z' w h2
      · have e : z' = z := by omega
        rw [e]; exact q
    · omega
theorem rst_mn {Od : Nat → Nat} {a L : Nat} (hO : ∀ k, k < 7 → Od k < 7) (ha : a ≤ 24) : ∀ {k : Nat}, k ≤ 7 → ∀ j, j < k → bt L (Od j) = 1 → (rst M Od a L k).2.1 ≤ fp M (Od j) (on L) a
  | 0, _, j, hj, _ => absurd hj (Nat.not_lt_zero j)
  | k + 1, hk, j, hj, hb => by
    have ih := rst_mn hO ha (L := L) (k := k) (by omega)
    have hi := rst_i (M := M) (left := L) hO ha (show k ≤ 7 by omega)
    rw [rst_s]
    by_cases e : bt L (Od k) = 1
    · rw [if_pos e]
      unfold rstp
      rcases hi with ⟨i1, i2, i3⟩ | ⟨i1, i2, i3⟩
      · rw [if_pos i1]
        rcases Nat.lt_or_ge j k with q | q
        · have := i3 j q; omega
        · have ej : j = k := by omega
          subst ej; exact Nat.le_refl _
      · rw [if_neg (by omega)]
        rcases Nat.lt_or_ge j k with q | q
        · have h1 := ih j q hb
          split
          · dsimp only; omega
          · split
            · dsimp only; omega
            · exact h1
        · have ej : j = k := by omega
          subst ej
          split
          · exact Nat.le_refl _
          · split
            · dsimp only; omega
            · dsimp only; omega
    · rw [if_neg e]
      rcases Nat.lt_or_ge j k with q | q
      · exact ih j q hb
      · have ej : j = k := by omega
        subst ej; exact absurd hb e
theorem rst_fp (h0 : ok M) {c a L : Nat} (hc : c < 7) (hb : bt L c = 1) (ha : a ≤ 24) : (rst M (io M) a L 7).2.1 ≤ fp M c (on L) a := by
  have h := rst_mn (M := M) (L := L) (fun k hk => io_lt h0 hk) ha (Nat.le_refl 7) (pl M c) (pl_lt h0 hc) (by rw [io_at h0 hc]; exact hb)
  rwa [io_at h0 hc] at h
theorem dfair (h0 : ok M) (hA : A < 128) {m c : Nat} (hm : m + 1 ≤ on A - 1) (hc : c < 7) (hb : bt (lfD M A m) c = 1) (hq : stD M A m < stD M A (m + 1)) : 2 * sr (wr M c) (stD M A m) (stD M A (m + 1) - 1 - stD M A m) < wf M c (stD M A m) := by
  have hi := lfD_i h0 hA (n := m) (by omega)
  have es := stD_s M A m
  have h1 : qnD M A m ≤ fp M c (on (lfD M A m)) (stD M A m) := rst_fp h0 hc hb hi.2.2
  have h2 := fp_min (M := M) (c := c) (n := on (lfD M A m)) (a := stD M A m) (24 - stD M A m) 0 (stD M A (m + 1) - 1 - stD M A m) (Nat.zero_le _) (Nat.lt_of_lt_of_le (show stD M A (m + 1) - 1 - stD M A m < qnD M A m by omega) h1)
  have h3 : sr (wr M c) (stD M A m) (stD M A (m + 1) - 1 - stD M A m) * 2 ≤ sr (wr M c) (stD M A m) (stD M A (m + 1) - 1 - stD M A m) * on (lfD M A m) := Nat.mul_le_mul_left _ (by omega)
  omega
/-- what the law keeps from piece to piece: a set that holds all who are left, and where the rest begins -/
def dInv (M : Nat → Nat) (A L a : Nat) : Prop := L < 128 ∧ ∃ n, n + 1 ≤ on A ∧ stD M A n = a ∧ ∀ x, x < 7 → bt (lfD M A n) x = 1 → bt L x = 1
theorem dInv_0 (hA0 : 0 < A) (hA : A < 128) : dInv M A A 0 := ⟨hA, 0, on_p A hA hA0, rfl, fun _ _ h => h⟩
theorem dInv_le (h0 : ok M) (hA : A < 128) {L a : Nat} (h : dInv M A L a) : a ≤ 24 := by
  obtain ⟨-, n, n1, n2, -⟩ := h
  rw [← n2]; exact (lfD_i h0 hA n1).2.2
theorem dstep (h0 : ok M) (hA0 : 0 < A) (hA : A < 128) {L a t : Nat} (hi : dInv M A L a) (ha : a < 24) (h1 : a ≤ t) (h2 : t ≤ 24) (hs : ∀ k, a ≤ k → k < t → dO M A k = dO M A a) (he : t = 24 ∨ ¬ dO M A t = dO M A a) : (dO M A a = dL M A ∧ t = 24) ∨ (¬ dO M A a = dL M A ∧ a < t ∧ bt L (dO M A a) = 1 ∧ dInv M A (rmv L (dO M A a)) t ∧ ∀ c, c < 7 → (c = dO M A a ∨ c = dL M A) → 2 * sr (wr M c) a (t - 1 - a) < wf M c a) := by
  obtain ⟨hL, n, n1, n2, n3⟩ := hi
  subst n2
  rcases dseg h0 hA0 hA (on A - 1 - n) n (by omega) t ha h1 h2 hs he with q | ⟨m, m1, m2, m3, m4, m5, m6, m7⟩
  · exact Or.inl q
  · have hh := hdD_i h0 hA (n := m) (by omega)
    have hl := dL_i h0 hA0 hA
    have hm := lfD_i h0 hA (n := m) (by omega)
    have hmn : ∀ x, x < 7 → bt (lfD M A m) x = 1 → bt L x = 1 := fun x hx hb => by
      obtain ⟨j, hj⟩ : ∃ j, m = n + j := ⟨m - n, by omega⟩
      subst hj
      exact n3 x hx (lf_mono h0 hA j (by omega) x hx hb)
    have hlm : bt (lfD M A m) (dL M A) = 1 := by
      obtain ⟨j, hj⟩ : ∃ j, on A - 1 = m + j := ⟨on A - 1 - m, by omega⟩
      exact lf_mono h0 hA j (by omega) _ hl.1 (by rw [← hj]; exact hl.2)
    refine Or.inr ⟨by rw [m6]; exact m7, by omega, by rw [m6]; exact hmn _ hh.1 hh.2.1, ⟨by rw [m6]; exact rmv_lt_d _ hL _ hh.1, m + 1, by omega, m4, fun x hx hb => ?_⟩, fun c hc hcc => ?_⟩
    · have hb : bt (rmv (lfD M A m) (hdD M A m)) x = 1 := hb
      have h9 := (bt_rmv_d _ hm.1 _ hh.1 x hx).mp hb
      rw [m6]; exact (bt_rmv_d _ hL _ hh.1 x hx).mpr ⟨hmn x hx h9.1, h9.2⟩
    · have hb : bt (lfD M A m) c = 1 := by
        rcases hcc with z | z
        · rw [z, m6]; exact hh.2.1
        · rw [z]; exact hlm
      have h9 := dfair h0 hA m2 hc hb m5
      rw [m4, m3] at h9; exact h9
-- what each has
theorem bb_1 : ∀ x, x < 7 → sm (fun c => bb (x = c)) 7 = 1 := by decide +kernel
theorem dheld (h0 : ok M) (hA0 : 0 < A) (hA : A < 128) : sm (fun c => pc4 (dO M A) c) 7 = 24 := by
  have e : sm (fun c => pc4 (dO M A) c) 7 = sm (fun k => sm (fun c => bb (dO M A k = c)) 7) 24 := sm_comm (fun k c => bb (dO M A k = c)) 24 7
  rw [e]
  have e2 : sm (fun k => sm (fun c => bb (dO M A k = c)) 7) 24 = sm (fun _ => 1) 24 := sm_c (fun k hk => bb_1 _ (dO_in h0 hA0 hA hk).1)
  rw [e2]; rfl
theorem dheld_le (h0 : ok M) (hA0 : 0 < A) (hA : A < 128) {n : Nat} (hn : n ≤ 7) : sm (fun c => pc4 (dO M A) c) n ≤ 168 := by
  have := sm_le (f := fun c => pc4 (dO M A) c) (b := 24) (n := n) (fun c _ => pc4_le _ _)
  omega
theorem dnone (h0 : ok M) (hA0 : 0 < A) (hA : A < 128) {c : Nat} (hb : ¬ bt A c = 1) : pc4 (dO M A) c = 0 := by
  have e : pc4 (dO M A) c = sm (fun _ => 0) 24 := sm_c (fun k hk => by
    show bb (dO M A k = c) = 0
    exact bb_f (fun q => hb (by rw [← q]; exact (dO_in h0 hA0 hA hk).2)))
  rw [e]; exact sm_z 24
theorem dnob (h0 : ok M) (hA0 : 0 < A) (hA : A < 128) : pc4 (dO M A) 7 = 0 := by
  have e : pc4 (dO M A) 7 = sm (fun _ => 0) 24 := sm_c (fun k hk => by
    show bb (dO M A k = 7) = 0
    exact bb_f (fun q => by have := (dO_in h0 hA0 hA hk).1; omega))
  rw [e]; exact sm_z 24
/-- the worth of a piece but for its last plot, as the law counts it -/
theorem dits (c a t : Nat) {n : Nat} (hn : a + n = 24) (ht : a < t) (ht2 : t ≤ 24) : sm (fun i => if t - 1 ≤ a + i then 0 else wr M c (a + i)) n = sr (wr M c) a (t - 1 - a) := by
  obtain ⟨j, hj⟩ : ∃ j, n = (t - 1 - a) + j := ⟨n - (t - 1 - a), by omega⟩
  subst hj
  rw [sm_sp]
  have e1 : sm (fun i => if t - 1 ≤ a + i then 0 else wr M c (a + i)) (t - 1 - a) = sr (wr M c) a (t - 1 - a) := sm_c (fun i hi => by
    show (if t - 1 ≤ a + i then 0 else wr M c (a + i)) = wr M c (a + i)
    rw [if_neg (by omega)])
  have e2 : sm (fun d => if t - 1 ≤ a + (t - 1 - a + d) then 0 else wr M c (a + (t - 1 - a + d))) j = sm (fun _ => 0) j := sm_c (fun i hi => by
    show (if t - 1 ≤ a + (t - 1 - a + i) then 0 else wr M c (a + (t - 1 - a + i))) = 0
    rw [if_pos (by omega)])
  rw [e1]
  show _ + sm (fun d => if t - 1 ≤ a + (t - 1 - a + d) then 0 else wr M c (a + (t - 1 - a + d))) j = _
  rw [e2, sm_z]; rfl
end DIVS
