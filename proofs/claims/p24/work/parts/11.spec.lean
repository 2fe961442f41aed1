/-! the numbers that both programs speak of, over a state M (the places as in the reference's row) -/
def sm (f : Nat → Nat) : Nat → Nat
  | 0 => 0
  | n + 1 => sm f n + f n
theorem sm_s (f : Nat → Nat) (n : Nat) : sm f (n + 1) = sm f n + f n := rfl
theorem sm_le {f : Nat → Nat} {b : Nat} : ∀ {n : Nat}, (∀ k, k < n → f k ≤ b) → sm f n ≤ n * b
  | 0, _ => by simp [sm]
  | n + 1, h => by
    have h1 := sm_le (n := n) (fun k hk => h k (by omega))
    have h2 := h n (Nat.lt_succ_self n)
    rw [sm_s, Nat.succ_mul]; omega
theorem sm_c {f g : Nat → Nat} : ∀ {n : Nat}, (∀ k, k < n → f k = g k) → sm f n = sm g n
  | 0, _ => rfl
  | n + 1, h => by rw [sm_s, sm_s, sm_c (fun k hk => h k (by omega)), h n (Nat.lt_succ_self n)]
theorem sm_mono {f : Nat → Nat} {a : Nat} : ∀ {n : Nat}, a ≤ n → sm f a ≤ sm f n
  | 0, h => by have : a = 0 := by omega
               subst this; exact Nat.le_refl _
  | n + 1, h => by
    rcases Nat.lt_or_ge n a with q | q
    · have : a = n + 1 := by omega
      subst this; exact Nat.le_refl _
    · rw [sm_s]; exact Nat.le_trans (sm_mono q) (Nat.le_add_right _ _)
/-- the worth of the plot k to the cousin c -/
def wr (M : Nat → Nat) (c k : Nat) : Nat := sm (fun r => M (0 + 4 * k + r) * M (120 + 4 * c + r)) 4
/-- that of n plots from a on -/
def sr (f : Nat → Nat) (a n : Nat) : Nat := sm (fun i => f (a + i)) n
def wf (M : Nat → Nat) (c a : Nat) : Nat := sr (wr M c) a (24 - a)
/-- that of the share of d to c, where O says whose a plot is -/
def sh (M O : Nat → Nat) (c d : Nat) : Nat := sm (fun k => if O k = d then wr M c k else 0) 24
def gr (M : Nat → Nat) (c d : Nat) : Nat := M (148 + 7 * c + d)
def se (M O : Nat → Nat) (c d : Nat) : Nat := sh M O c d * (10 + gr M c d) / 10
def ev (M O : Nat → Nat) (c d : Nat) : Nat := if c = d then 0 else se M O c d - sh M O c c
def es (M O : Nat → Nat) (A B : Nat) : Nat := sm (fun k => if bt A (k / 7) = 1 ∧ bt B (k % 7) = 1 then ev M O (k / 7) (k % 7) else 0) 49
def gs (M : Nat → Nat) (c : Nat) : Nat := sm (fun d => gr M c d) 7
abbrev ahd (M : Nat → Nat) (c d : Nat) : Prop := (M 197 = 0 ∧ c < d) ∨ (¬ M 197 = 0 ∧ (gs M d < gs M c ∨ (gs M c = gs M d ∧ c < d)))
def pl (M : Nat → Nat) (c : Nat) : Nat := sm (fun k => bb (ahd M k c)) 7
/-- whose the plots are: in the reference's row at p -/
def ow (M : Nat → Nat) (p : Nat) : Nat → Nat := fun k => M (p + 96 + k)
/-- what every state keeps: small amounts, weights, grudges; owners at most 7; the settings in range -/
def ok (M : Nat → Nat) : Prop := (∀ j, j < 96 → M j < 10) ∧ (∀ j, j < 24 → M (96 + j) < 8) ∧ (∀ j, j < 28 → M (120 + j) < 10) ∧ (∀ j, j < 49 → M (148 + j) < 10) ∧ M 197 < 2 ∧ 0 < M 198 ∧ M 198 < 11
theorem wr_le {M : Nat → Nat} (h : ok M) {c k : Nat} (hc : c < 7) (hk : k < 24) : wr M c k ≤ 324 := by
  have e := sm_le (f := fun r => M (0 + 4 * k + r) * M (120 + 4 * c + r)) (b := 81) (n := 4) (fun r hr => by
    have h1 := h.1 (0 + 4 * k + r) (by omega)
    have h2 := h.2.2.1 (4 * c + r) (by omega)
    rw [show 120 + (4 * c + r) = 120 + 4 * c + r by omega] at h2
    show M (0 + 4 * k + r) * M (120 + 4 * c + r) ≤ 81
    exact Nat.mul_le_mul (show _ ≤ 9 by omega) (show _ ≤ 9 by omega))
  exact e
theorem sr_le {M : Nat → Nat} (h : ok M) {c a n : Nat} (hc : c < 7) (hn : a + n ≤ 24) : sr (wr M c) a n ≤ 7776 := by
  have e := sm_le (f := fun i => wr M c (a + i)) (b := 324) (n := n) (fun i hi => wr_le h hc (by omega))
  have : n * 324 ≤ 24 * 324 := Nat.mul_le_mul_right _ (by omega)
  unfold sr; omega
theorem sh_le {M O : Nat → Nat} (h : ok M) {c d : Nat} (hc : c < 7) : sh M O c d ≤ 7776 := by
  have e := sm_le (f := fun k => if O k = d then wr M c k else 0) (b := 324) (n := 24) (fun k hk => by
    show (if O k = d then wr M c k else 0) ≤ 324
    split
    · exact wr_le h hc hk
    · omega)
  unfold sh; omega
theorem gr_le {M : Nat → Nat} (h : ok M) {c d : Nat} (hc : c < 7) (hd : d < 7) : gr M c d ≤ 9 := by
  have h1 := h.2.2.2.1 (7 * c + d) (by omega)
  rw [show 148 + (7 * c + d) = 148 + 7 * c + d by omega] at h1
  unfold gr; omega
theorem sx_le {M O : Nat → Nat} (h : ok M) {c d : Nat} (hc : c < 7) (hd : d < 7) : sh M O c d * (10 + gr M c d) ≤ 147744 := Nat.mul_le_mul (sh_le h hc) (show 10 + gr M c d ≤ 19 by have := gr_le h hc hd; omega)
theorem se_le {M O : Nat → Nat} (h : ok M) {c d : Nat} (hc : c < 7) (hd : d < 7) : se M O c d ≤ 14775 := by
  have := sx_le (O := O) h hc hd
  unfold se; omega
theorem ev_le {M O : Nat → Nat} (h : ok M) {c d : Nat} (hc : c < 7) (hd : d < 7) : ev M O c d ≤ 14775 := by
  have := se_le (O := O) h hc hd
  unfold ev; split <;> omega
theorem es_le {M O : Nat → Nat} (h : ok M) {A B : Nat} : es M O A B ≤ 723975 := by
  have e := sm_le (f := fun k => if bt A (k / 7) = 1 ∧ bt B (k % 7) = 1 then ev M O (k / 7) (k % 7) else 0) (b := 14775) (n := 49) (fun k hk => by
    show (if bt A (k / 7) = 1 ∧ bt B (k % 7) = 1 then ev M O (k / 7) (k % 7) else 0) ≤ 14775
    split
    · exact ev_le h (by omega) (by omega)
    · omega)
  exact e
theorem gs_le {M : Nat → Nat} (h : ok M) {c : Nat} (hc : c < 7) : gs M c ≤ 63 := sm_le (f := fun d => gr M c d) (b := 9) (n := 7) (fun d hd => gr_le h hc hd)
abbrev rg (x : Int32) (n : Nat) : Prop := ¬ (x < nI 0) ∧ ¬ (nI n < x)
theorem rg_of {x : Int32} {n : Nat} (h : rg x n) (hn : n < 2147483648) : ∃ a, a ≤ n ∧ x = nI a := by
  obtain ⟨a, ha, rfl⟩ := nI_of (x := x) (by rw [← nI_0]; exact h.1)
  refine ⟨a, ?_, rfl⟩
  rcases Nat.lt_or_ge n a with q | q
  · exact absurd (nI_lt q ha) h.2
  · exact q
theorem rg_n {a n : Nat} (ha : a < 2147483648) (hn : n < 2147483648) : rg (nI a) n ↔ a ≤ n := by
  refine ⟨fun h => ?_, fun h => ⟨by rw [nI_0]; exact nI_pos ha, nI_nlt h hn⟩⟩
  rcases Nat.lt_or_ge n a with q | q
  · exact absurd (nI_lt q ha) h.2
  · exact q
theorem sub_pos {a b : Nat} (ha : a < 1073741824) (hb : b < 1073741824) : (0 : Int32) < nI a - nI b ↔ b < a := by
  rw [Int32.lt_iff_toInt_lt, pk_sub_toInt ha hb, Int32.toInt_zero]; omega
theorem sub_nn {a b : Nat} (ha : a < 1073741824) (hb : b < 1073741824) : (0 : Int32) ≤ nI a - nI b ↔ b ≤ a := by
  rw [Int32.le_iff_toInt_le, pk_sub_toInt ha hb, Int32.toInt_zero]; omega
theorem sub_zero {a b : Nat} (ha : a < 1073741824) (hb : b < 1073741824) : nI a - nI b = 0 ↔ a = b := by
  rw [← Int32.toInt_inj, pk_sub_toInt ha hb, Int32.toInt_zero]; omega
def rs (M O : Nat → Nat) (c d : Nat) : Nat := if M 198 ≤ gr M c d ∨ M 198 ≤ gr M d c then 1 else if sh M O c c < sh M O c d then (if sh M O d d < sh M O d c then 0 else 3) else 2
def on (A : Nat) : Nat := sm (fun c => bt A c) 7
theorem on_le (A : Nat) : on A ≤ 7 := sm_le (f := fun c => bt A c) (b := 1) (n := 7) (fun c _ => by have := bt_lt A c; omega)
def me (M O : Nat → Nat) (c : Nat) : Nat → Nat
  | 0 => 0
  | n + 1 => if ev M O c n ≤ me M O c n then me M O c n else ev M O c n
theorem me_le {M O : Nat → Nat} (h : ok M) {c : Nat} (hc : c < 7) : ∀ {n : Nat}, n ≤ 7 → me M O c n ≤ 14775
  | 0, _ => by simp [me]
  | n + 1, hn => by
    have h1 := me_le (O := O) h hc (n := n) (by omega)
    have h2 := ev_le (O := O) h hc (show n < 7 by omega)
    show (if ev M O c n ≤ me M O c n then me M O c n else ev M O c n) ≤ 14775
    split <;> omega
/-- how many plots the fair piece has -/
def fpF (M : Nat → Nat) (c n a : Nat) : Nat → Nat → Nat
  | 0, z => z
  | f + 1, z => if sr (wr M c) a z * n < wf M c a then fpF M c n a f (z + 1) else z
def fp (M : Nat → Nat) (c n a : Nat) : Nat := fpF M c n a (24 - a) 0
theorem fpF_le {M : Nat → Nat} {c n a : Nat} : ∀ (f z : Nat), fpF M c n a f z ≤ z + f
  | 0, z => Nat.le_refl _
  | f + 1, z => by
    show (if sr (wr M c) a z * n < wf M c a then fpF M c n a f (z + 1) else z) ≤ _
    split
    · have := fpF_le (M := M) (c := c) (n := n) (a := a) f (z + 1); omega
    · omega
theorem fp_le {M : Nat → Nat} {c n a : Nat} (ha : a ≤ 24) : fp M c n a ≤ 24 - a := by have := fpF_le (M := M) (c := c) (n := n) (a := a) (24 - a) 0; unfold fp; omega
def pc4 (O : Nat → Nat) (d : Nat) : Nat := sm (fun k => bb (O k = d)) 24
theorem pc4_le (O : Nat → Nat) (d : Nat) : pc4 O d ≤ 24 := sm_le (f := fun k => bb (O k = d)) (b := 1) (n := 24) (fun k _ => by have := @bb_lt (O k = d) _; omega)
theorem ev_e {M O : Nat → Nat} {c d : Nat} (h : c = d) : nI 0 = nI (ev M O c d) := by unfold ev; rw [if_pos h]
theorem ev_n {M O : Nat → Nat} {c d : Nat} (h0 : ok M) (hc : c < 7) (hd : d < 7) (h2 : ¬ 0 ≤ nI (se M O c d) - nI (sh M O c c)) : nI 0 = nI (ev M O c d) := by
  have h1 := se_le (O := O) h0 hc hd
  have h3 := sh_le (O := O) (d := c) h0 hc
  rw [sub_nn (by omega) (by omega)] at h2
  unfold ev; split
  · rfl
  · congr 1; omega
theorem ev_p {M O : Nat → Nat} {c d : Nat} (h0 : ok M) (hc : c < 7) (hd : d < 7) (h : ¬ c = d) (h2 : 0 ≤ nI (se M O c d) - nI (sh M O c c)) : nI (se M O c d) - nI (sh M O c c) = nI (ev M O c d) := by
  have h1 := se_le (O := O) h0 hc hd
  have h3 := sh_le (O := O) (d := c) h0 hc
  rw [sub_nn (by omega) (by omega)] at h2
  unfold ev; rw [if_neg h, pk_sub h2]
theorem on_d : ∀ A, A < 128 → ∀ k, k < 7 → bt A k = 1 → 0 < on A := by decide +kernel
theorem rs_lt (M O : Nat → Nat) (c d : Nat) : rs M O c d < 4 := by unfold rs; (repeat' split) <;> omega
theorem fpF_end {M : Nat → Nat} {c n a i : Nat} (h : wf M c a ≤ sr (wr M c) a i * n) : ∀ (f : Nat), fpF M c n a f i = i
  | 0 => rfl
  | f + 1 => by show (if sr (wr M c) a i * n < wf M c a then fpF M c n a f (i + 1) else i) = i; rw [if_neg (by omega)]
theorem fp_body {M : Nat → Nat} {c n a i : Nat} (hn : 1 ≤ n) (hi : i ≤ 24 - a) (h : ¬ wf M c a ≤ sr (wr M c) a i * n) : i < 24 - a := by
  rcases Nat.lt_or_ge i (24 - a) with q | q
  · exact q
  · exfalso
    have e : i = 24 - a := by omega
    subst e
    exact h (Nat.le_mul_of_pos_right _ hn)
theorem fpF_step {M : Nat → Nat} {c n a i : Nat} (hi : i < 24 - a) (h : ¬ wf M c a ≤ sr (wr M c) a i * n) : fpF M c n a (24 - a - (i + 1)) (i + 1) = fpF M c n a (24 - a - i) i := by
  have e : 24 - a - i = (24 - a - (i + 1)) + 1 := by omega
  rw [e]
  show _ = (if sr (wr M c) a i * n < wf M c a then fpF M c n a (24 - a - (i + 1)) (i + 1) else i)
  rw [if_pos (by omega)]
