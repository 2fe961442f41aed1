/-! what the reference's writers leave -/
def shf (P : Nat → Nat) (n : Nat) : Nat → Nat := fun j => if j < n then P (202 + j) else P j
theorem shf_0 (P : Nat → Nat) : shf P 0 = P := by funext j; unfold shf; rw [if_neg (by omega)]
theorem shf_s (P : Nat → Nat) (k : Nat) : va_up (shf P k) k (shf P k (202 + k)) = shf P (k + 1) := by
  funext j; unfold va_up shf
  by_cases h : j = k
  · subst h; rw [if_pos rfl, if_neg (by omega), if_pos (by omega)]
  · rw [if_neg h]
    by_cases h2 : j < k
    · rw [if_pos h2, if_pos (by omega)]
    · rw [if_neg h2, if_neg (by omega)]
def cpA (F M : Nat → Nat) (o n : Nat) : Nat → Nat := fun j => if o ≤ j ∧ j < o + n then M (j - o) else F j
theorem cpA_0 (F M : Nat → Nat) (o : Nat) : cpA F M o 0 = F := by funext j; unfold cpA; rw [if_neg (by omega)]
theorem cpA_s (F M : Nat → Nat) (o k : Nat) : va_up (cpA F M o k) (o + k) (M k) = cpA F M o (k + 1) := by
  funext j; unfold va_up cpA
  by_cases h : j = o + k
  · subst h; rw [if_pos rfl, if_pos (by omega), Nat.add_sub_cancel_left]
  · rw [if_neg h]
    by_cases h2 : o ≤ j ∧ j < o + k
    · rw [if_pos h2, if_pos (by omega)]
    · rw [if_neg h2, if_neg (by omega)]
theorem cpA_in {F M : Nat → Nat} {o n j : Nat} (h : j < n) : cpA F M o n (o + j) = M j := by unfold cpA; rw [if_pos (by omega), Nat.add_sub_cancel_left]
theorem cpA_out {F M : Nat → Nat} {o n j : Nat} (h : j < o ∨ o + n ≤ j) : cpA F M o n j = F j := by unfold cpA; rw [if_neg (by omega)]
theorem cpS_s (M : Nat → Nat) {k : Nat} (hk : k < 202) : va_up (cpA M M 202 k) (202 + k) (cpA M M 202 k k) = cpA M M 202 (k + 1) := by
  rw [cpA_out (j := k) (by omega)]; exact cpA_s M M 202 k
def pushP (P M : Nat → Nat) (kn : Nat) : Nat → Nat := cpA (if kn = 4 then shf P 606 else P) M (202 * (if kn = 4 then 3 else kn)) 202
def pushK (kn : Nat) : Nat := (if kn = 4 then 3 else kn) + 1
theorem pushP_a {P M : Nat → Nat} {kn : Nat} (h : kn = 4) : cpA (shf P 606) M (202 * (kn - 1)) 202 = pushP P M kn := by subst h; rfl
theorem pushK_a {kn : Nat} (h : kn = 4) : kn - 1 + 1 = pushK kn := by subst h; rfl
theorem pushP_b {P M : Nat → Nat} {kn : Nat} (h : ¬ kn = 4) : cpA P M (202 * kn) 202 = pushP P M kn := by unfold pushP; rw [if_neg h, if_neg h]
theorem pushK_b {kn : Nat} (h : ¬ kn = 4) : kn + 1 = pushK kn := by unfold pushK; rw [if_neg h]
/-- the row of those by ORDER, k of them set -/
def oa (M F : Nat → Nat) : Nat → Nat → Nat
  | 0 => F
  | n + 1 => va_up (oa M F n) (pl M n) n
theorem oa_0 (M F : Nat → Nat) : oa M F 0 = F := rfl
/-- the plots from a up to b are given to c, in the row at p -/
def own (M : Nat → Nat) (p a b c : Nat) : Nat → Nat := fun j => if p + 96 + a ≤ j ∧ j < p + 96 + b then c else M j
theorem own_0 (M : Nat → Nat) (p a c : Nat) : own M p a (a + 0) c = M := by funext j; unfold own; rw [if_neg (by omega)]
theorem own_s (M : Nat → Nat) (p a c i : Nat) : va_up (own M p a (a + i) c) (p + 96 + (a + i)) c = own M p a (a + (i + 1)) c := by
  funext j; unfold va_up own
  by_cases h : j = p + 96 + (a + i)
  · subst h; rw [if_pos rfl, if_pos (by omega)]
  · rw [if_neg h]
    by_cases h2 : p + 96 + a ≤ j ∧ j < p + 96 + (a + i)
    · rw [if_pos h2, if_pos (by omega)]
    · rw [if_neg h2, if_neg (by omega)]
def swp (c d x : Nat) : Nat := if x = c then d else if x = d then c else x
theorem swp_lt {c d x n : Nat} (hc : c < n) (hd : d < n) (hx : x < n) : swp c d x < n := by unfold swp; (repeat' split) <;> omega
theorem swp_swp (c d x : Nat) : swp c d (swp c d x) = x := by unfold swp; (repeat' split) <;> omega
def trA (M : Nat → Nat) (p c d n : Nat) : Nat → Nat := fun j => if p + 96 ≤ j ∧ j < p + 96 + n then swp c d (M j) else M j
theorem trA_0 (M : Nat → Nat) (p c d : Nat) : trA M p c d 0 = M := by funext j; unfold trA; rw [if_neg (by omega)]
theorem trA_s (M : Nat → Nat) (p c d k : Nat) : va_up (trA M p c d k) (p + 96 + k) (swp c d (M (p + 96 + k))) = trA M p c d (k + 1) := by
  funext j; unfold va_up trA
  by_cases h : j = p + 96 + k
  · subst h; rw [if_pos rfl, if_pos (by omega)]
  · rw [if_neg h]
    by_cases h2 : p + 96 ≤ j ∧ j < p + 96 + k
    · rw [if_pos h2, if_pos (by omega)]
    · rw [if_neg h2, if_neg (by omega)]
theorem trA_o {M : Nat → Nat} {p c d k : Nat} : trA M p c d k (p + 96 + k) = M (p + 96 + k) := by unfold trA; rw [if_neg (by omega)]
theorem trA_2 (M : Nat → Nat) (p c d : Nat) : trA (trA M p c d 24) p c d 24 = M := by
  funext j; unfold trA; split
  · rw [swp_swp]
  · rfl
theorem trA_ow (M : Nat → Nat) (p c d : Nat) {k : Nat} (hk : k < 24) : ow (trA M p c d 24) p k = swp c d (ow M p k) := by unfold ow trA; rw [if_pos (by omega)]
/-- the places that tell worths, grudges and settings hold the same -/
def ag (M M' : Nat → Nat) : Prop := ∀ j, j < 199 → (j < 96 ∨ 120 ≤ j) → M j = M' j
theorem ag_r (M : Nat → Nat) : ag M M := fun _ _ _ => rfl
theorem ag_s {M M' : Nat → Nat} (h : ag M M') : ag M' M := fun j h1 h2 => (h j h1 h2).symm
theorem ag_t {M M' M2 : Nat → Nat} (h : ag M M') (h' : ag M' M2) : ag M M2 := fun j h1 h2 => (h j h1 h2).trans (h' j h1 h2)
theorem trA_ag (M : Nat → Nat) (p c d : Nat) (hp : p = 0 ∨ p = 202) : ag M (trA M p c d 24) := fun j h1 h2 => by unfold trA; rw [if_neg (by omega)]
theorem ag_wr {M M' : Nat → Nat} (h : ag M M') {c k : Nat} (hc : c < 7) (hk : k < 24) : wr M c k = wr M' c k := sm_c (fun r hr => by
  show M (0 + 4 * k + r) * M (120 + 4 * c + r) = M' (0 + 4 * k + r) * M' (120 + 4 * c + r)
  rw [h (0 + 4 * k + r) (by omega) (by omega), h (120 + 4 * c + r) (by omega) (by omega)])
theorem ag_sr {M M' : Nat → Nat} (h : ag M M') {c a n : Nat} (hc : c < 7) (hn : a + n ≤ 24) : sr (wr M c) a n = sr (wr M' c) a n := sm_c (fun i hi => ag_wr h hc (by omega))
theorem ag_wf {M M' : Nat → Nat} (h : ag M M') {c a : Nat} (hc : c < 7) (ha : a ≤ 24) : wf M c a = wf M' c a := ag_sr h hc (by omega)
theorem ag_sh {M M' O O' : Nat → Nat} (h : ag M M') (hO : ∀ k, k < 24 → O k = O' k) {c d : Nat} (hc : c < 7) : sh M O c d = sh M' O' c d := sm_c (fun k hk => by
  show (if O k = d then wr M c k else 0) = (if O' k = d then wr M' c k else 0)
  rw [hO k hk, ag_wr h hc hk])
theorem ag_gr {M M' : Nat → Nat} (h : ag M M') {c d : Nat} (hc : c < 7) (hd : d < 7) : gr M c d = gr M' c d := h (148 + 7 * c + d) (by omega) (by omega)
theorem ag_se {M M' O O' : Nat → Nat} (h : ag M M') (hO : ∀ k, k < 24 → O k = O' k) {c d : Nat} (hc : c < 7) (hd : d < 7) : se M O c d = se M' O' c d := by unfold se; rw [ag_sh h hO hc, ag_gr h hc hd]
theorem ag_ev {M M' O O' : Nat → Nat} (h : ag M M') (hO : ∀ k, k < 24 → O k = O' k) {c d : Nat} (hc : c < 7) (hd : d < 7) : ev M O c d = ev M' O' c d := by unfold ev; rw [ag_se h hO hc hd, ag_sh h hO hc]
theorem ag_es {M M' O O' : Nat → Nat} (h : ag M M') (hO : ∀ k, k < 24 → O k = O' k) {A B : Nat} : es M O A B = es M' O' A B := sm_c (fun k hk => by
  show (if bt A (k / 7) = 1 ∧ bt B (k % 7) = 1 then ev M O (k / 7) (k % 7) else 0) = (if bt A (k / 7) = 1 ∧ bt B (k % 7) = 1 then ev M' O' (k / 7) (k % 7) else 0)
  rw [ag_ev h hO (by omega) (by omega)])
theorem ag_gs {M M' : Nat → Nat} (h : ag M M') {c : Nat} (hc : c < 7) : gs M c = gs M' c := sm_c (fun d hd => ag_gr h hc hd)
theorem ag_ahd {M M' : Nat → Nat} (h : ag M M') {c d : Nat} (hc : c < 7) (hd : d < 7) : ahd M c d ↔ ahd M' c d := by
  unfold ahd; rw [ag_gs h hc, ag_gs h hd, h 197 (by omega) (by omega)]
theorem ag_pl {M M' : Nat → Nat} (h : ag M M') {c : Nat} (hc : c < 7) : pl M c = pl M' c := sm_c (fun k hk => bb_c (ag_ahd h hk hc))
theorem ag_rs {M M' O O' : Nat → Nat} (h : ag M M') (hO : ∀ k, k < 24 → O k = O' k) {c d : Nat} (hc : c < 7) (hd : d < 7) : rs M O c d = rs M' O' c d := by
  unfold rs; rw [ag_sh h hO hc, ag_sh h hO hc, ag_sh h hO hd, ag_sh h hO hd, ag_gr h hc hd, ag_gr h hd hc, h 198 (by omega) (by omega)]
theorem ag_fpF {M M' : Nat → Nat} (h : ag M M') {c n a : Nat} (hc : c < 7) (ha : a ≤ 24) : ∀ (f z : Nat), a + z + f ≤ 24 → fpF M c n a f z = fpF M' c n a f z
  | 0, _, _ => rfl
  | f + 1, z, hz => by
    show (if sr (wr M c) a z * n < wf M c a then fpF M c n a f (z + 1) else z) = (if sr (wr M' c) a z * n < wf M' c a then fpF M' c n a f (z + 1) else z)
    rw [ag_sr h hc (show a + z ≤ 24 by omega), ag_wf h hc ha, ag_fpF h hc ha f (z + 1) (by omega)]
theorem ag_fp {M M' : Nat → Nat} (h : ag M M') {c n a : Nat} (hc : c < 7) (ha : a ≤ 24) : fp M c n a = fp M' c n a := ag_fpF h hc ha _ _ (by omega)
theorem ag_me {M M' O O' : Nat → Nat} (h : ag M M') (hO : ∀ k, k < 24 → O k = O' k) {c : Nat} (hc : c < 7) : ∀ {n : Nat}, n ≤ 7 → me M O c n = me M' O' c n
  | 0, _ => rfl
  | n + 1, hn => by
    show (if ev M O c n ≤ me M O c n then me M O c n else ev M O c n) = (if ev M' O' c n ≤ me M' O' c n then me M' O' c n else ev M' O' c n)
    rw [ag_me h hO hc (n := n) (by omega), ag_ev h hO hc (show n < 7 by omega)]
theorem pl_lt {M : Nat → Nat} (h : ok M) {c : Nat} (hc : c < 7) : pl M c < 7 := by
  have hz : bb (ahd M c c) = 0 := bb_f (by unfold ahd; omega)
  have key : ∀ n, n ≤ 7 → sm (fun k => bb (ahd M k c)) n + (if c < n then 1 else 0) ≤ n := by
    intro n
    induction n with
    | zero => intro _; simp [sm]
    | succ n ih =>
      intro hn
      have h1 := ih (by omega)
      rw [sm_s]
      by_cases e : n = c
      · subst e
        rw [if_neg (by omega)] at h1
        rw [if_pos (by omega)]
        show _ + bb (ahd M n n) + 1 ≤ _
        omega
      · have h2 := @bb_lt (ahd M n c) _
        by_cases q : c < n
        · rw [if_pos q] at h1; rw [if_pos (by omega)]; show _ + bb (ahd M n c) + 1 ≤ _; omega
        · rw [if_neg q] at h1; rw [if_neg (by omega)]; show _ + bb (ahd M n c) + 0 ≤ _; omega
  have := key 7 (Nat.le_refl _)
  rw [if_pos hc] at this
  show sm (fun k => bb (ahd M k c)) 7 < 7
  omega
