/-! dividing -/
theorem sm_lt {f g : Nat → Nat} {m : Nat} : ∀ {n : Nat}, (∀ k, k < n → f k ≤ g k) → m < n → f m < g m → sm f n < sm g n
  | 0, _, h, _ => by omega
  | n + 1, h, hm, hlt => by
    rw [sm_s, sm_s]
    have h1 := h n (Nat.lt_succ_self n)
    by_cases e : m = n
    · subst e
      have h2 : sm f m ≤ sm g m := by
        clear hm hlt h1
        have : ∀ k, k < m → f k ≤ g k := fun k hk => h k (by omega)
        clear h
        induction m with
        | zero => exact Nat.le_refl _
        | succ m ih => rw [sm_s, sm_s]; have := ih (fun k hk => this k (by omega)); have := ‹∀ k, k < m + 1 → f k ≤ g k› m (Nat.lt_succ_self m); omega
      omega
    · have := sm_lt (n := n) (fun k hk => h k (by omega)) (by omega) hlt
      omega
/-- the number by which they stand in ORDER -/
def ky (M : Nat → Nat) (c : Nat) : Nat := if M 197 = 0 then c else (100 - gs M c) * 7 + c
theorem ky_a {M : Nat → Nat} (h : ok M) {c d : Nat} (hc : c < 7) (hd : d < 7) : ahd M c d ↔ ky M c < ky M d := by
  have h1 := gs_le h hc
  have h2 := gs_le h hd
  unfold ahd ky
  split <;> omega
theorem ky_i {M : Nat → Nat} (h : ok M) {c d : Nat} (hc : c < 7) (hd : d < 7) (e : ky M c = ky M d) : c = d := by
  have h1 := gs_le h hc
  have h2 := gs_le h hd
  unfold ky at e
  split at e <;> omega
theorem pl_k {M : Nat → Nat} (h : ok M) {c : Nat} (hc : c < 7) : pl M c = sm (fun k => bb (ky M k < ky M c)) 7 := sm_c (fun k hk => bb_c (ky_a h hk hc))
theorem bb_le {P Q : Prop} [Decidable P] [Decidable Q] (h : P → Q) : bb P ≤ bb Q := by
  by_cases p : P
  · rw [bb_t p, bb_t (h p)]; exact Nat.le_refl _
  · rw [bb_f p]; exact Nat.zero_le _
theorem pl_l {M : Nat → Nat} (h : ok M) {c d : Nat} (hc : c < 7) (hd : d < 7) (hl : ky M c < ky M d) : pl M c < pl M d := by
  rw [pl_k h hc, pl_k h hd]
  refine sm_lt (m := c) (fun k _ => bb_le (fun q => by omega)) hc ?_
  show bb (ky M c < ky M c) < bb (ky M c < ky M d)
  rw [bb_f (by omega), bb_t hl]; exact Nat.one_pos
theorem pl_i {M : Nat → Nat} (h : ok M) {c d : Nat} (hc : c < 7) (hd : d < 7) (e : pl M c = pl M d) : c = d := by
  rcases Nat.lt_trichotomy (ky M c) (ky M d) with q | q | q
  · have := pl_l h hc hd q; omega
  · exact ky_i h hc hd q
  · have := pl_l h hd hc q; omega
theorem oa_at {M F : Nat → Nat} (h : ok M) : ∀ {n c : Nat}, n ≤ 7 → c < n → oa M F n (pl M c) = c
  | 0, _, _, hc => by omega
  | n + 1, c, hn, hc => by
    show va_up (oa M F n) (pl M n) n (pl M c) = c
    unfold va_up
    by_cases e : pl M c = pl M n
    · rw [if_pos e]; exact (pl_i h (by omega) (by omega) e).symm
    · rw [if_neg e]
      have : c ≠ n := fun q => e (by rw [q])
      exact oa_at h (by omega) (by omega)
/-- every place is somebody's -/
theorem pl_on {M : Nat → Nat} (h : ok M) {j : Nat} (hj : j < 7) : ∃ c, c < 7 ∧ pl M c = j := by
  have f : ∀ c, c < 7 → pl M c < 7 := fun c hc => pl_lt h hc
  rcases Classical.em (∃ c, c < 7 ∧ pl M c = j) with q | q
  · exact q
  · exfalso
    have g : ∀ c, c < 7 → pl M c ≠ j := fun c hc e => q ⟨c, hc, e⟩
    -- seven values in six places
    have key : ∀ (n : Nat) (w : Nat → Nat), (∀ c, c < n + 1 → w c < n) → ∃ a b, a < b ∧ b < n + 1 ∧ w a = w b := by
      intro n
      induction n with
      | zero => intro w hw; have := hw 0 (by omega); omega
      | succ n ih =>
        intro w hw
        rcases Classical.em (∃ a, a < n + 1 ∧ w a = w (n + 1)) with ⟨a, ha, e⟩ | hno
        · exact ⟨a, n + 1, ha, by omega, e⟩
        · have hne : ∀ a, a < n + 1 → w a ≠ w (n + 1) := fun a ha e => hno ⟨a, ha, e⟩
          obtain ⟨a, b, h1, h2, h3⟩ := ih (fun c => if w c < w (n + 1) then w c else w c - 1) (fun c hc => by
            have := hw c (by omega); have := hw (n + 1) (by omega); have := hne c hc
            show (if w c < w (n + 1) then w c else w c - 1) < n
            split <;> omega)
          refine ⟨a, b, h1, by omega, ?_⟩
          have e1 := hne a (by omega)
          have e2 := hne b (by omega)
          skip
          split at h3 <;> split at h3 <;> omega
    obtain ⟨a, b, h1, h2, h3⟩ := key 6 (fun c => if pl M c < j then pl M c else pl M c - 1) (fun c hc => by
      have := f c hc; have := g c hc
      show (if pl M c < j then pl M c else pl M c - 1) < 6
      split <;> omega)
    have e1 := g a (by omega)
    have e2 := g b (by omega)
    have e3 : pl M a = pl M b := by split at h3 <;> split at h3 <;> omega
    have := pl_i h (by omega) (by omega) e3
    omega
def io (M : Nat → Nat) : Nat → Nat := oa M (fun _ => 0) 7
theorem io_at {M : Nat → Nat} (h : ok M) {c : Nat} (hc : c < 7) : io M (pl M c) = c := oa_at h (Nat.le_refl 7) hc
theorem oa_io {M F : Nat → Nat} (h : ok M) {j : Nat} (hj : j < 7) : oa M F 7 j = io M j := by
  obtain ⟨c, hc, rfl⟩ := pl_on h hj
  rw [io_at h hc, oa_at h (Nat.le_refl 7) hc]
theorem io_lt {M : Nat → Nat} (h : ok M) {j : Nat} (hj : j < 7) : io M j < 7 := by
  obtain ⟨c, hc, rfl⟩ := pl_on h hj
  rw [io_at h hc]; exact hc
theorem io_pl {M : Nat → Nat} (h : ok M) {j : Nat} (hj : j < 7) : pl M (io M j) = j := by
  obtain ⟨c, hc, rfl⟩ := pl_on h hj
  rw [io_at h hc]
/-- one cousin's part in a round: who holds, how many plots, the trims, those out of a grudge -/
def rstp (c h q t u f s g : Nat) : Nat × Nat × Nat × Nat := if h = 7 then (c, f, t, u) else if f < q then (c, f, t + 1, u) else if f = q ∧ 0 < f ∧ s ≤ g then (c, f - 1, t + 1, u + 1) else (h, q, t, u)
def rst (M Od : Nat → Nat) (a left : Nat) : Nat → Nat × Nat × Nat × Nat
  | 0 => (7, 0, 0, 0)
  | k + 1 => if bt left (Od k) = 1 then rstp (Od k) (rst M Od a left k).1 (rst M Od a left k).2.1 (rst M Od a left k).2.2.1 (rst M Od a left k).2.2.2 (fp M (Od k) (on left) a) (M 198) (gr M (Od k) (rst M Od a left k).1) else rst M Od a left k
theorem rst_s (M Od : Nat → Nat) (a left k : Nat) : rst M Od a left (k + 1) = if bt left (Od k) = 1 then rstp (Od k) (rst M Od a left k).1 (rst M Od a left k).2.1 (rst M Od a left k).2.2.1 (rst M Od a left k).2.2.2 (fp M (Od k) (on left) a) (M 198) (gr M (Od k) (rst M Od a left k).1) else rst M Od a left k := rfl
/-- what a round keeps -/
theorem rst_i {M Od : Nat → Nat} {a left : Nat} (hO : ∀ k, k < 7 → Od k < 7) (ha : a ≤ 24) : ∀ {k : Nat}, k ≤ 7 → ((rst M Od a left k).1 = 7 ∧ (rst M Od a left k).2.1 = 0 ∧ (∀ j, j < k → bt left (Od j) = 0)) ∨ ((rst M Od a left k).1 < 7 ∧ bt left (rst M Od a left k).1 = 1 ∧ a + (rst M Od a left k).2.1 ≤ 24)
  | 0, _ => Or.inl ⟨rfl, rfl, fun j h => by omega⟩
  | k + 1, hk => by
    have ih := rst_i (M := M) (left := left) hO ha (k := k) (by omega)
    have hf := fp_le (M := M) (c := Od k) (n := on left) ha
    have ho := hO k (by omega)
    rw [rst_s]
    have hb := bt_lt left (Od k)
    by_cases e : bt left (Od k) = 1
    · rw [if_pos e]
      right
      unfold rstp
      rcases ih with ⟨i1, i2, i3⟩ | ⟨i1, i2, i3⟩
      · rw [if_pos i1]; exact ⟨ho, e, by dsimp only; omega⟩
      · rw [if_neg (by omega)]
        split
        · exact ⟨ho, e, by dsimp only; omega⟩
        · split
          · exact ⟨ho, e, by dsimp only; omega⟩
          · exact ⟨i1, i2, i3⟩
    · rw [if_neg e]
      rcases ih with ⟨i1, i2, i3⟩ | i
      · left
        refine ⟨i1, i2, fun j hj => ?_⟩
        by_cases q : j = k
        · subst q; omega
        · exact i3 j (by omega)
      · exact Or.inr i
theorem rst_tu {M Od : Nat → Nat} {a left : Nat} : ∀ {k : Nat}, (rst M Od a left k).2.2.1 ≤ k ∧ (rst M Od a left k).2.2.2 ≤ k
  | 0 => ⟨Nat.le_refl _, Nat.le_refl _⟩
  | k + 1 => by
    have ih := rst_tu (M := M) (Od := Od) (a := a) (left := left) (k := k)
    rw [rst_s]
    split
    · unfold rstp
      split
      · dsimp only; omega
      · split
        · dsimp only; omega
        · split
          · dsimp only; omega
          · dsimp only; omega
    · omega
/-- the row at p with the counts of trims grown -/
def md (M : Nat → Nat) (p t u : Nat) : Nat → Nat := fun j => if j = p + 199 then M j + t else if j = p + 200 then M j + u else M j
theorem md_0 (M : Nat → Nat) (p : Nat) : md M p 0 0 = M := by funext j; unfold md; (repeat' split) <;> rfl
theorem md_1 (M : Nat → Nat) (p t u x : Nat) : va_up (md M p t u) (p + 199) (md M p t u (p + 199) + x) = md M p (t + x) u := by
  funext j; unfold va_up md
  by_cases h : j = p + 199
  · rw [if_pos h, if_pos h, if_pos rfl, h]; omega
  · rw [if_neg h, if_neg h, if_neg h]
theorem md_2 (M : Nat → Nat) (p t u x : Nat) : va_up (md M p t u) (p + 200) (md M p t u (p + 200) + x) = md M p t (u + x) := by
  funext j; unfold va_up md
  by_cases h : j = p + 200
  · subst h; rw [if_pos rfl, if_neg (by omega), if_pos rfl, if_neg (by omega), if_pos rfl]; omega
  · rw [if_neg h, if_neg h, if_neg h]
theorem md_ag (M : Nat → Nat) (p t u : Nat) : ag M (md M p t u) := fun j h1 h2 => by unfold md; rw [if_neg (by omega), if_neg (by omega)]
theorem md_ok {M : Nat → Nat} (h : ok M) (p t u : Nat) : ok (md M p t u) := by
  have e : ∀ j, j < 199 → md M p t u j = M j := fun j hj => by unfold md; rw [if_neg (by omega), if_neg (by omega)]
  obtain ⟨h1, h2, h3, h4, h5, h6, h7⟩ := h
  exact ⟨fun j hj => by rw [e j (by omega)]; exact h1 j hj, fun j hj => by rw [e (96 + j) (by omega)]; exact h2 j hj, fun j hj => by rw [e (120 + j) (by omega)]; exact h3 j hj, fun j hj => by rw [e (148 + j) (by omega)]; exact h4 j hj, by rw [e 197 (by omega)]; exact h5, by rw [e 198 (by omega)]; exact h6, by rw [e 198 (by omega)]; exact h7⟩
theorem rstp_fix (c h q t u f s g : Nat) : rstp c h q t u f s g = (if h = 7 then c else (if ¬ (h = 7) ∧ (¬ (q ≤ f)) then c else (if ¬ (h = 7) ∧ ((f = q) ∧ (¬ (f = 0) ∧ (¬ (g < s)))) then c else h)), if h = 7 then f else (if ¬ (h = 7) ∧ (¬ (q ≤ f)) then f else (if ¬ (h = 7) ∧ ((f = q) ∧ (¬ (f = 0) ∧ (¬ (g < s)))) then f - 1 else q)), t + bb ((¬ (h = 7) ∧ (¬ (q ≤ f))) ∨ (¬ (h = 7) ∧ ((f = q) ∧ (¬ (f = 0) ∧ (¬ (g < s)))))), u + bb (¬ (h = 7) ∧ ((f = q) ∧ (¬ (f = 0) ∧ (¬ (g < s)))))) := by
  unfold rstp
  by_cases h7 : h = 7
  · rw [if_pos h7, if_pos h7, if_pos h7, bb_f (fun z => z.elim (fun w => w.1 h7) (fun w => w.1 h7)), bb_f (fun w => w.1 h7)]; rfl
  · rw [if_neg h7, if_neg h7, if_neg h7]
    by_cases hq : f < q
    · rw [if_pos hq, if_pos ⟨h7, by omega⟩, if_pos ⟨h7, by omega⟩, bb_t (Or.inl ⟨h7, by omega⟩), bb_f (fun w => by omega)]; rfl
    · have n1 : ¬ (¬ (h = 7) ∧ (¬ (q ≤ f))) := fun w => w.2 (by omega)
      rw [if_neg hq, if_neg n1, if_neg n1]
      by_cases h3 : f = q ∧ 0 < f ∧ s ≤ g
      · have p1 : ¬ (h = 7) ∧ ((f = q) ∧ (¬ (f = 0) ∧ (¬ (g < s)))) := ⟨h7, h3.1, by omega, by omega⟩
        rw [if_pos h3, if_pos p1, if_pos p1, bb_t (Or.inr p1), bb_t p1]
      · have n2 : ¬ (¬ (h = 7) ∧ ((f = q) ∧ (¬ (f = 0) ∧ (¬ (g < s))))) := fun w => h3 ⟨w.2.1, by omega, by omega⟩
        rw [if_neg h3, if_neg n2, if_neg n2, bb_f (fun z => z.elim n1 n2), bb_f n2]; rfl
def gv (O : Nat → Nat) (a b c : Nat) : Nat → Nat := fun k => if a ≤ k ∧ k < b then c else O k
theorem gv_lt {O : Nat → Nat} {a b c : Nat} (hc : c < 8) (h : ∀ k, k < 24 → O k < 8) : ∀ k, k < 24 → gv O a b c k < 8 := fun k hk => by
  unfold gv; split
  · exact hc
  · exact h k hk
abbrev dT : Type := Nat × Nat × (Nat → Nat) × Nat × Nat
def dvr (M : Nat → Nat) (x : dT) : Nat × Nat × Nat × Nat := rst M (io M) x.2.1 x.1 7
/-- dividing, n rounds of it: who is left, where the rest begins, whose the plots are, the trims -/
def dvs (M O : Nat → Nat) (A : Nat) : Nat → dT
  | 0 => (A, 0, O, 0, 0)
  | n + 1 => (rmv (dvs M O A n).1 (dvr M (dvs M O A n)).1, (dvs M O A n).2.1 + (dvr M (dvs M O A n)).2.1, gv (dvs M O A n).2.2.1 (dvs M O A n).2.1 ((dvs M O A n).2.1 + (dvr M (dvs M O A n)).2.1) (dvr M (dvs M O A n)).1, (dvs M O A n).2.2.2.1 + (dvr M (dvs M O A n)).2.2.1, (dvs M O A n).2.2.2.2 + (dvr M (dvs M O A n)).2.2.2)
def fin (M O : Nat → Nat) (A : Nat) : dT := dvs M O A (on A - 1)
def lb (L : Nat) : Nat := if bt L 0 = 1 then 0 else if bt L 1 = 1 then 1 else if bt L 2 = 1 then 2 else if bt L 3 = 1 then 3 else if bt L 4 = 1 then 4 else if bt L 5 = 1 then 5 else 6
theorem lb_d : ∀ L, L < 128 → 0 < on L → lb L < 7 ∧ bt L (lb L) = 1 ∧ ∀ j, j < lb L → bt L j = 0 := by decide +kernel
theorem on_ex : ∀ A, A < 128 → 0 < on A → ∃ c, c < 7 ∧ bt A c = 1 := fun A h h2 => ⟨lb A, (lb_d A h h2).1, (lb_d A h h2).2.1⟩
theorem on_rm : ∀ A, A < 128 → ∀ c, c < 7 → bt A c = 1 → on (rmv A c) + 1 = on A := by decide +kernel
theorem on_p : ∀ A, A < 128 → 0 < A → 0 < on A := by decide +kernel
theorem rst_h {M : Nat → Nat} {a L : Nat} (h : ok M) (hL : L < 128) (ho : 0 < on L) (ha : a ≤ 24) : (rst M (io M) a L 7).1 < 7 ∧ bt L (rst M (io M) a L 7).1 = 1 ∧ a + (rst M (io M) a L 7).2.1 ≤ 24 := by
  rcases rst_i (M := M) (Od := io M) (left := L) (fun k hk => io_lt h hk) ha (Nat.le_refl 7) with ⟨-, -, i3⟩ | i
  · exfalso
    obtain ⟨c, hc, hb⟩ := on_ex L hL ho
    have := i3 (pl M c) (pl_lt h hc)
    rw [io_at h hc] at this
    omega
  · exact i
theorem rst_c {M M' Od Od' : Nat → Nat} (h : ag M M') (hO : ∀ k, k < 7 → Od k = Od' k) (hl : ∀ k, k < 7 → Od k < 7) {a L : Nat} (ha : a ≤ 24) : ∀ {k : Nat}, k ≤ 7 → rst M Od a L k = rst M' Od' a L k
  | 0, _ => rfl
  | k + 1, hk => by
    have ih := rst_c h hO hl (L := L) ha (k := k) (by omega)
    have hi := rst_i (M := M) (left := L) hl ha (show k ≤ 7 by omega)
    have h7 : (rst M Od a L k).1 ≤ 7 := by rcases hi with hi | hi <;> omega
    have ho := hl k (by omega)
    rw [rst_s, rst_s, ← hO k (by omega), ← ih, ag_fp h ho ha, h 198 (by omega) (by omega)]
    have e : gr M (Od k) (rst M Od a L k).1 = gr M' (Od k) (rst M Od a L k).1 := h _ (by omega) (by omega)
    rw [e]
theorem dvs_i {M O : Nat → Nat} {A : Nat} (h : ok M) (hA : A < 128) (hO : ∀ k, k < 24 → O k < 8) : ∀ {n : Nat}, n + 1 ≤ on A → (dvs M O A n).1 < 128 ∧ on (dvs M O A n).1 + n = on A ∧ (dvs M O A n).2.1 ≤ 24 ∧ ∀ k, k < 24 → (dvs M O A n).2.2.1 k < 8
  | 0, _ => ⟨hA, rfl, Nat.zero_le _, hO⟩
  | n + 1, hn => by
    obtain ⟨i1, i2, i3, i4⟩ := dvs_i h hA hO (n := n) (by omega)
    obtain ⟨j1, j2, j3⟩ := rst_h h i1 (by omega) i3
    refine ⟨rmv_lt_d _ i1 _ j1, ?_, j3, gv_lt (Nat.lt_succ_of_lt j1) i4⟩
    have := on_rm _ i1 _ j1 j2
    show on (rmv (dvs M O A n).1 (dvr M (dvs M O A n)).1) + (n + 1) = on A
    unfold dvr
    omega
theorem dvr_h {M O : Nat → Nat} {A n : Nat} (h : ok M) (hA : A < 128) (hO : ∀ k, k < 24 → O k < 8) (hn : n + 1 ≤ on A) : (dvr M (dvs M O A n)).1 < 7 ∧ bt (dvs M O A n).1 (dvr M (dvs M O A n)).1 = 1 ∧ (dvs M O A n).2.1 + (dvr M (dvs M O A n)).2.1 ≤ 24 := by
  obtain ⟨i1, i2, i3, i4⟩ := dvs_i h hA hO hn
  exact rst_h h i1 (by omega) i3
/-- the row at p after a part of a division -/
def dvM (M : Nat → Nat) (p : Nat) (O : Nat → Nat) (t u : Nat) : Nat → Nat := fun j => if p + 96 ≤ j ∧ j < p + 120 then O (j - (p + 96)) else md M p t u j
theorem dvM_0 (M : Nat → Nat) (p : Nat) : dvM M p (ow M p) 0 0 = M := by
  funext j; unfold dvM; rw [md_0]; split
  · unfold ow; congr 1; omega
  · rfl
theorem own_dvM (M : Nat → Nat) (p : Nat) (O : Nat → Nat) (t u a b c : Nat) (hb : b ≤ 24) : own (dvM M p O t u) p a b c = dvM M p (gv O a b c) t u := by
  funext j; unfold own dvM gv
  by_cases h1 : p + 96 + a ≤ j ∧ j < p + 96 + b
  · rw [if_pos h1, if_pos (by omega), if_pos (by omega)]
  · rw [if_neg h1]
    by_cases h2 : p + 96 ≤ j ∧ j < p + 120
    · rw [if_pos h2, if_pos h2, if_neg (by omega)]
    · rw [if_neg h2, if_neg h2]
theorem dvM_t (M : Nat → Nat) (p : Nat) (O : Nat → Nat) (t u : Nat) : dvM M p O t u (p + 199) = M (p + 199) + t := by
  unfold dvM md; rw [if_neg (by omega), if_pos rfl]
theorem dvM_u (M : Nat → Nat) (p : Nat) (O : Nat → Nat) (t u : Nat) : dvM M p O t u (p + 200) = M (p + 200) + u := by
  unfold dvM md; rw [if_neg (by omega), if_neg (by omega), if_pos rfl]
theorem md_dvM (M : Nat → Nat) (p : Nat) (O : Nat → Nat) (t u t' u' : Nat) : md (dvM M p O t u) p t' u' = dvM M p O (t + t') (u + u') := by
  funext j
  show (if j = p + 199 then dvM M p O t u j + t' else if j = p + 200 then dvM M p O t u j + u' else dvM M p O t u j) = dvM M p O (t + t') (u + u') j
  by_cases e : j = p + 199
  · subst e; rw [if_pos rfl, dvM_t, dvM_t]; omega
  · by_cases e2 : j = p + 200
    · subst e2; rw [if_neg (by omega), if_pos rfl, dvM_u, dvM_u]; omega
    · rw [if_neg e, if_neg e2]; unfold dvM
      by_cases h2 : p + 96 ≤ j ∧ j < p + 120
      · rw [if_pos h2, if_pos h2]
      · rw [if_neg h2, if_neg h2]; unfold md; rw [if_neg e, if_neg e2, if_neg e, if_neg e2]
theorem dvM_ag (M : Nat → Nat) {p : Nat} (hp : p = 0 ∨ p = 202) (O : Nat → Nat) (t u : Nat) : ag M (dvM M p O t u) := fun j h1 h2 => by
  unfold dvM; rw [if_neg (by omega)]; exact md_ag M p t u j h1 h2
theorem dvM_in (M : Nat → Nat) (p : Nat) (O : Nat → Nat) (t u : Nat) {k : Nat} (hk : k < 24) : dvM M p O t u (p + 96 + k) = O k := by
  unfold dvM; rw [if_pos (by omega)]; congr 1; omega
theorem dvM_ok {M : Nat → Nat} (h : ok M) {p : Nat} (hp : p = 0 ∨ p = 202) {O : Nat → Nat} (hO : ∀ k, k < 24 → O k < 8) (t u : Nat) : ok (dvM M p O t u) := by
  have e : ∀ j, j < 199 → (j < 96 ∨ 120 ≤ j) → dvM M p O t u j = M j := fun j h1 h2 => (dvM_ag M hp O t u j h1 h2).symm
  obtain ⟨h1, h2, h3, h4, h5, h6, h7⟩ := h
  refine ⟨fun j hj => by rw [e j (by omega) (by omega)]; exact h1 j hj, fun j hj => ?_, fun j hj => by rw [e (120 + j) (by omega) (by omega)]; exact h3 j hj, fun j hj => by rw [e (148 + j) (by omega) (by omega)]; exact h4 j hj, by rw [e 197 (by omega) (by omega)]; exact h5, by rw [e 198 (by omega) (by omega)]; exact h6, by rw [e 198 (by omega) (by omega)]; exact h7⟩
  unfold dvM
  by_cases q : p + 96 ≤ 96 + j ∧ 96 + j < p + 120
  · rw [if_pos q]; exact hO _ (by omega)
  · rw [if_neg q]; unfold md; rw [if_neg (by omega), if_neg (by omega)]; exact h2 j hj
