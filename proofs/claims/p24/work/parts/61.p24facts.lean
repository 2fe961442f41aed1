/-! small facts for the law's walks -/
theorem cs_g {M O : Nat → Nat} {c d : Nat} (hdg : gr M c c = 0) (e : d = c) : sm (fun j => gr M c j) (d + 1) = sm (fun j => gr M c j) d ∧ sm (fun j => ev M O c j) (d + 1) = sm (fun j => ev M O c j) d ∧ me M O c (d + 1) = me M O c d := by
  subst e
  have h1 : ev M O d d = 0 := by unfold ev; rw [if_pos rfl]
  refine ⟨?_, ?_, ?_⟩
  · show sm (fun j => gr M d j) d + gr M d d = _
    rw [hdg]; rfl
  · show sm (fun j => ev M O d j) d + ev M O d d = _
    rw [h1]; rfl
  · show (if ev M O d d ≤ me M O d d then me M O d d else ev M O d d) = _
    rw [h1, if_pos (Nat.zero_le _)]
theorem ev_q {M O : Nat → Nat} {c d : Nat} (h : ¬ c = d) : (if se M O c d ≤ sh M O c c then 0 else se M O c d - sh M O c c) = ev M O c d := by
  unfold ev; rw [if_neg h]
  split
  · omega
  · rfl
theorem hnd_le {M : Nat → Nat} {c : Nat} (h : sh M (ow M 0) c c ≤ 7776) : hnd M c ≤ 777600 := by
  unfold hnd
  split
  · omega
  · have := Nat.div_le_self (100 * sh M (ow M 0) c c) (wf M c 0)
    omega
theorem se7_le {M O : Nat → Nat} (h0 : ok M) {c n : Nat} (hc : c < 7) (hn : n ≤ 7) : sm (fun j => ev M O c j) n ≤ 103425 := by
  have := sm_le (f := fun j => ev M O c j) (b := 14775) (n := n) (fun j hj => ev_le h0 hc (by omega))
  omega
theorem gs7_le {M : Nat → Nat} (h0 : ok M) {c n : Nat} (hc : c < 7) (hn : n ≤ 7) : sm (fun j => gr M c j) n ≤ 63 := by
  have := sm_le (f := fun j => gr M c j) (b := 9) (n := n) (fun j hj => gr_le h0 hc (by omega))
  omega
theorem tm_no {M : Nat → Nat} {x y : Int32} (h : ¬ rs M (ow M 0) (nn x) (nn y) = 0) : ¬ ((rg x 6 ∧ rg y 6) ∧ ¬ x = y ∧ rs M (ow M 0) (nn x) (nn y) = 0) := fun q => h q.2.2
theorem at_e {M : Nat → Nat} {a b : Nat} (ha : a < 7) (e : a = b) (k : Nat) : (aTrade M M k (nI a) (nI b)).1 = -2 ∧ (aTrade M M k (nI a) (nI b)).2.1 = M := by
  subst e
  unfold aTrade; rw [if_pos ⟨rg_i (show a ≤ 6 by omega) (by decide), rg_i (show a ≤ 6 by omega) (by decide)⟩, if_pos rfl]; exact ⟨rfl, rfl⟩
theorem at_n {M : Nat → Nat} {a b : Nat} (ha : a < 7) (hb : b < 7) (e : ¬ a = b) (h : ¬ rs M (ow M 0) a b = 0) (k : Nat) : (aTrade M M k (nI a) (nI b)).1 = -10 - nI (rs M (ow M 0) a b) ∧ (aTrade M M k (nI a) (nI b)).2.1 = M := by
  unfold aTrade; rw [if_pos ⟨rg_i (show a ≤ 6 by omega) (by decide), rg_i (show b ≤ 6 by omega) (by decide)⟩, if_neg (fun q => e ((nI_eq (by omega) (by omega)).mp q)), nn_n (show a < 2147483648 by omega), nn_n (show b < 2147483648 by omega), if_neg h]; exact ⟨rfl, rfl⟩
theorem at_x1 {M : Nat → Nat} {a b : Nat} (e : a = b) : ¬ ((rg (nI a) 6 ∧ rg (nI b) 6) ∧ ¬ nI a = nI b ∧ rs M (ow M 0) (nn (nI a)) (nn (nI b)) = 0) := fun q => q.2.1 (by rw [e])
theorem at_x2 {M : Nat → Nat} {a b : Nat} (ha : a < 7) (hb : b < 7) (h : ¬ rs M (ow M 0) a b = 0) : ¬ ((rg (nI a) 6 ∧ rg (nI b) 6) ∧ ¬ nI a = nI b ∧ rs M (ow M 0) (nn (nI a)) (nn (nI b)) = 0) := fun q => h (by have := q.2.2; rwa [nn_n (show a < 2147483648 by omega), nn_n (show b < 2147483648 by omega)] at this)
theorem sw_c2 (M : Nat → Nat) (a b : Nat) : es M (swO (ow M 0) a b) 127 127 = es M (swO (ow M 0) b a) 127 127 := by rw [swO_c]
theorem td_n (M O : Nat → Nat) {c : Nat} (hc : c < 7) : td M O (7 * c) = td M O (7 * c + (c + 1)) := (td_k M O hc (Nat.le_refl _)).symm
theorem bsf_no {M O : Nat → Nat} {k : Nat} (h : ¬ (¬ (k % 7 ≤ k / 7) ∧ rs M O (k / 7) (k % 7) = 0)) : bsf M O (k + 1) = bsf M O k := by rw [bsf_s, if_neg h]
theorem bsf_ye {M O : Nat → Nat} {k : Nat} (h : ¬ (k % 7 ≤ k / 7)) (h1 : rs M O (k / 7) (k % 7) = 0) (h2 : nbI (bsf M O k).1 = -5 ∨ ¬ (bsf M O k).2 ≤ es M (swO O (k / 7) (k % 7)) 127 127) (hk : k ≤ 49) : nbI (bsf M O (k + 1)).1 = nI (10 * (k / 7) + k % 7) ∧ (bsf M O (k + 1)).2 = es M (swO O (k / 7) (k % 7)) 127 127 := by
  have h3 : (bsf M O k).1 = 0 ∨ es M (swO O (k / 7) (k % 7)) 127 127 < (bsf M O k).2 := by
    rcases h2 with q | q
    · exact Or.inl ((nbI_5 (Nat.lt_trans (bsf_lt M O hk) (by decide))).mp q)
    · exact Or.inr (by omega)
  rw [bsf_s, if_pos ⟨h, h1⟩, if_pos h3]
  exact ⟨nbI_p (by dsimp only; omega), rfl⟩
theorem bsf_ke {M O : Nat → Nat} {k : Nat} (h1 : ¬ nbI (bsf M O k).1 = -5) (h2 : (bsf M O k).2 ≤ es M (swO O (k / 7) (k % 7)) 127 127) : bsf M O (k + 1) = bsf M O k := by
  rw [bsf_s]
  have h3 : ¬ ((bsf M O k).1 = 0 ∨ es M (swO O (k / 7) (k % 7)) 127 127 < (bsf M O k).2) := fun q => by
    rcases q with q | q
    · exact h1 (by rw [q]; rfl)
    · omega
  rw [if_neg h3]
  split <;> rfl
theorem am_lt {M : Nat → Nat} (h0 : ok M) {k r : Nat} (hk : k < 24) (hr : r < 4) : M (0 + 4 * k + r) < 10 := h0.1 _ (by omega)
theorem we_lt {M : Nat → Nat} (h0 : ok M) {c r : Nat} (hc : c < 7) (hr : r < 4) : M (120 + 4 * c + r) < 10 := by
  have h := h0.2.2.1 (4 * c + r) (by omega)
  rwa [show 120 + (4 * c + r) = 120 + 4 * c + r by omega] at h
theorem se_lt {M : Nat → Nat} (h0 : ok M) {a : Nat} (ha : a < 2) : M (197 + a) < 11 := by
  rcases (show a = 0 ∨ a = 1 by omega) with rfl | rfl
  · have := h0.2.2.2.2.1
    show M 197 < 11
    omega
  · exact h0.2.2.2.2.2.2
theorem ch_ow (M : Nat → Nat) (k t : Nat) : ow (chM M (.inr (96 + k, t))) 0 k = t := by
  show chM M (.inr (96 + k, t)) (0 + 96 + k) = t
  rw [show 0 + 96 + k = 96 + k by omega]; exact ch_at _ _ _
theorem iM_pc : pc4 (ow iM 0) 7 = 24 := by decide +kernel
theorem iM_5 : iM 198 = 5 := by decide +kernel
theorem iM_iv : q_iv 0 iM := ⟨iM_ok, by decide +kernel, by decide +kernel, by decide +kernel, by decide +kernel⟩
theorem iM_OI : q_OI 0 iM q_hE 0 (fun _ => iM) (fun _ => 0) (fun _ => 0) := ⟨iM_ok, Nat.zero_le _, fun k hk => absurd hk (Nat.not_lt_zero k), fun k _ => (by decide : 0 < 8), fun j _ => (by decide : 0 < 65536), rfl⟩
