/-! the answers at the law's own arguments -/
theorem rg_i {a n : Nat} (h : a ≤ n) (hn : n < 1000) : rg (nI a) n := (rg_n (by omega) (by omega)).mpr h
section ANS
variable {M : Nat → Nat}
theorem pl_a {k r : Nat} (hk : k < 24) (hr : r < 4) : aPlot M (nI k) (nI r) = nI (M (0 + 4 * k + r)) := by
  unfold aPlot; rw [if_pos (rg_i (show k ≤ 23 by omega) (by decide)), if_pos (rg_i (show r ≤ 11 by omega) (by decide)), nn_n (show k < 2147483648 by omega), nn_n (show r < 2147483648 by omega), if_pos hr]
theorem pl_o {k : Nat} (hk : k < 24) : aPlot M (nI k) (nI 4) = nI (ow M 0 k) := by
  unfold aPlot; rw [if_pos (rg_i (show k ≤ 23 by omega) (by decide)), if_pos (rg_i (show 4 ≤ 11 by decide) (by decide)), nn_n (show k < 2147483648 by omega), nn_n (show 4 < 2147483648 by decide)]; rfl
theorem pl_w {k c : Nat} (hk : k < 24) (hc : c < 7) : aPlot M (nI k) (nI (5 + c)) = nI (wr M c k) := by
  unfold aPlot; rw [if_pos (rg_i (show k ≤ 23 by omega) (by decide)), if_pos (rg_i (show 5 + c ≤ 11 by omega) (by decide)), nn_n (show k < 2147483648 by omega), nn_n (show 5 + c < 2147483648 by omega), if_neg (by omega), if_neg (by omega), show 5 + c - 5 = c by omega]
theorem cz_a {c r : Nat} (hc : c < 7) (hr : r < 4) : aCousin M (nI c) (nI r) = nI (M (120 + 4 * c + r)) := by
  unfold aCousin; rw [if_pos (rg_i (show c ≤ 6 by omega) (by decide)), if_pos (rg_i (show r ≤ 12 by omega) (by decide)), nn_n (show c < 2147483648 by omega), nn_n (show r < 2147483648 by omega), if_pos hr]
theorem cz_j {c j : Nat} (hc : c < 7) (hj : j ≤ 12) : aCousin M (nI c) (nI j) = (if j < 4 then nI (M (120 + 4 * c + j)) else if j = 4 then nI (pc4 (ow M 0) c) else if j = 5 then nI (sh M (ow M 0) c c) else if j = 6 then nI (wf M c 0) else if j = 7 then nI (hnd M c) else if j = 8 then nI (gs M c) else if j = 9 then nI (es M (ow M 0) (2 ^ c) 127) else if j = 10 then nI (me M (ow M 0) c 7) else if j = 11 then nI (es M (ow M 0) 127 (2 ^ c)) else nI (pl M c)) := by
  unfold aCousin; rw [if_pos (rg_i (show c ≤ 6 by omega) (by decide)), if_pos (rg_i hj (by decide)), nn_n (show c < 2147483648 by omega), nn_n (show j < 2147483648 by omega)]
theorem cz_4 {c : Nat} (hc : c < 7) : aCousin M (nI c) (nI 4) = nI (pc4 (ow M 0) c) := (cz_j hc (by decide)).trans rfl
theorem cz_5 {c : Nat} (hc : c < 7) : aCousin M (nI c) (nI 5) = nI (sh M (ow M 0) c c) := (cz_j hc (by decide)).trans rfl
theorem cz_6 {c : Nat} (hc : c < 7) : aCousin M (nI c) (nI 6) = nI (wf M c 0) := (cz_j hc (by decide)).trans rfl
theorem cz_7 {c : Nat} (hc : c < 7) : aCousin M (nI c) (nI 7) = nI (hnd M c) := (cz_j hc (by decide)).trans rfl
theorem cz_8 {c : Nat} (hc : c < 7) : aCousin M (nI c) (nI 8) = nI (gs M c) := (cz_j hc (by decide)).trans rfl
theorem cz_9 {c : Nat} (hc : c < 7) : aCousin M (nI c) (nI 9) = nI (es M (ow M 0) (2 ^ c) 127) := (cz_j hc (by decide)).trans rfl
theorem cz_10 {c : Nat} (hc : c < 7) : aCousin M (nI c) (nI 10) = nI (me M (ow M 0) c 7) := (cz_j hc (by decide)).trans rfl
theorem cz_11 {c : Nat} (hc : c < 7) : aCousin M (nI c) (nI 11) = nI (es M (ow M 0) 127 (2 ^ c)) := (cz_j hc (by decide)).trans rfl
theorem cz_12 {c : Nat} (hc : c < 7) : aCousin M (nI c) (nI 12) = nI (pl M c) := (cz_j hc (by decide)).trans rfl
theorem pa_j {c d j : Nat} (hc : c < 7) (hd : d < 7) (h : ¬ c = d) (hj : j ≤ 4) : aPair M (nI c) (nI d) (nI j) = (if j = 0 then nI (gr M c d) else if j = 1 then nI (sh M (ow M 0) c d) else if j = 2 then nI (se M (ow M 0) c d) else if j = 3 then nI (ev M (ow M 0) c d) else nI (rs M (ow M 0) c d)) := by
  unfold aPair; rw [if_pos ⟨rg_i (show c ≤ 6 by omega) (by decide), rg_i (show d ≤ 6 by omega) (by decide)⟩, if_pos ⟨fun q => h ((nI_eq (by omega) (by omega)).mp q), rg_i hj (by decide)⟩, nn_n (show c < 2147483648 by omega), nn_n (show d < 2147483648 by omega), nn_n (show j < 2147483648 by omega)]
theorem pa_0 {c d : Nat} (hc : c < 7) (hd : d < 7) (h : ¬ c = d) : aPair M (nI c) (nI d) (nI 0) = nI (gr M c d) := (pa_j hc hd h (by decide)).trans rfl
theorem pa_1 {c d : Nat} (hc : c < 7) (hd : d < 7) (h : ¬ c = d) : aPair M (nI c) (nI d) (nI 1) = nI (sh M (ow M 0) c d) := (pa_j hc hd h (by decide)).trans rfl
theorem pa_2 {c d : Nat} (hc : c < 7) (hd : d < 7) (h : ¬ c = d) : aPair M (nI c) (nI d) (nI 2) = nI (se M (ow M 0) c d) := (pa_j hc hd h (by decide)).trans rfl
theorem pa_3 {c d : Nat} (hc : c < 7) (hd : d < 7) (h : ¬ c = d) : aPair M (nI c) (nI d) (nI 3) = nI (ev M (ow M 0) c d) := (pa_j hc hd h (by decide)).trans rfl
theorem pa_4 {c d : Nat} (hc : c < 7) (hd : d < 7) (h : ¬ c = d) : aPair M (nI c) (nI d) (nI 4) = nI (rs M (ow M 0) c d) := (pa_j hc hd h (by decide)).trans rfl
theorem pa_e : aPair M (nI 1) (nI 1) (nI 0) = -2 := by
  unfold aPair; rw [if_pos (by decide), if_neg (fun q => q.1 rfl)]
theorem to_j {j : Nat} (hj : j ≤ 8) : aTotal M 0 0 (nI j) = (if j = 0 then nI (M 197) else if j = 1 then nI (M 198) else if j = 2 then nI (pc4 (ow M 0) 7) else if j = 3 then nI (es M (ow M 0) 127 127) else if j = 4 then nI (sm (fun c => bb (me M (ow M 0) c 7 = 0)) 7) else if j = 5 then nI (td M (ow M 0) 49) else if j = 6 then nI (M 199) else if j = 7 then nI (M 200) else nI (M 201)) := by
  unfold aTotal; rw [if_pos (rg_i (show j ≤ 10 by omega) (by decide)), nn_n (show j < 2147483648 by omega)]
  rcases (show j = 0 ∨ j = 1 ∨ j = 2 ∨ j = 3 ∨ j = 4 ∨ j = 5 ∨ j = 6 ∨ j = 7 ∨ j = 8 by omega) with rfl | rfl | rfl | rfl | rfl | rfl | rfl | rfl | rfl <;> rfl
theorem to_0 : aTotal M 0 0 (nI 0) = nI (M 197) := (to_j (by decide)).trans rfl
theorem to_1 : aTotal M 0 0 (nI 1) = nI (M 198) := (to_j (by decide)).trans rfl
theorem to_2 : aTotal M 0 0 (nI 2) = nI (pc4 (ow M 0) 7) := (to_j (by decide)).trans rfl
theorem to_3 : aTotal M 0 0 (nI 3) = nI (es M (ow M 0) 127 127) := (to_j (by decide)).trans rfl
theorem to_4 : aTotal M 0 0 (nI 4) = nI (sm (fun c => bb (me M (ow M 0) c 7 = 0)) 7) := (to_j (by decide)).trans rfl
theorem to_5 : aTotal M 0 0 (nI 5) = nI (td M (ow M 0) 49) := (to_j (by decide)).trans rfl
theorem to_6 : aTotal M 0 0 (nI 6) = nI (M 199) := (to_j (by decide)).trans rfl
theorem to_7 : aTotal M 0 0 (nI 7) = nI (M 200) := (to_j (by decide)).trans rfl
theorem to_8 : aTotal M 0 0 (nI 8) = nI (M 201) := (to_j (by decide)).trans rfl
theorem to_s {a : Nat} (ha : a < 2) : aTotal M 0 0 (nI a) = nI (M (197 + a)) := by
  rcases (show a = 0 ∨ a = 1 by omega) with rfl | rfl
  · exact to_0
  · exact to_1
theorem to_e : aTotal M 0 0 (nI 11) = -2 := by unfold aTotal; rw [if_neg (by decide)]
theorem if_j {A j : Nat} (h0 : 0 < A) (hA : A < 128) (hj : j ≤ 4) : aIf M (nI A) (nI j) = (if j = 0 then nI (dT_ M A) else if j = 1 then nI (dU M A) else if j = 2 then nI (es M (dO M A) 127 127) else if j = 3 then nI (dO M A 0) else nI (dL M A)) := by
  unfold aIf; rw [if_pos ⟨pty_nI h0 hA, rg_i hj (by decide)⟩, nn_n (show A < 2147483648 by omega), nn_n (show j < 2147483648 by omega)]
theorem if_0 {A : Nat} (h0 : 0 < A) (hA : A < 128) : aIf M (nI A) (nI 0) = nI (dT_ M A) := (if_j h0 hA (by decide)).trans rfl
theorem if_1 {A : Nat} (h0 : 0 < A) (hA : A < 128) : aIf M (nI A) (nI 1) = nI (dU M A) := (if_j h0 hA (by decide)).trans rfl
theorem if_2 {A : Nat} (h0 : 0 < A) (hA : A < 128) : aIf M (nI A) (nI 2) = nI (es M (dO M A) 127 127) := (if_j h0 hA (by decide)).trans rfl
theorem if_3 {A : Nat} (h0 : 0 < A) (hA : A < 128) : aIf M (nI A) (nI 3) = nI (dO M A 0) := (if_j h0 hA (by decide)).trans rfl
theorem if_4 {A : Nat} (h0 : 0 < A) (hA : A < 128) : aIf M (nI A) (nI 4) = nI (dL M A) := (if_j h0 hA (by decide)).trans rfl
theorem be_0 : aBest M (nI 0) = nbI (bT M).1 := by
  unfold aBest nbI; rw [if_pos (by decide), if_pos (show nI 0 = 0 by decide)]
theorem be_1 : aBest M (nI 1) = (if (bT M).1 = 0 then -5 else nI (bT M).2) := by
  unfold aBest; rw [if_pos (by decide), if_neg (show ¬ nI 1 = 0 by decide)]
theorem bwz_0 : aBestW M (nI 0) = nI (bW M 6).1 := by
  unfold aBestW; rw [if_pos (by decide), if_pos (show nI 0 = 0 by decide)]
theorem bwz_1 : aBestW M (nI 1) = nI (bW M 6).2 := by
  unfold aBestW; rw [if_pos (by decide), if_neg (show ¬ nI 1 = 0 by decide)]
end ANS
theorem pP_y {k r d : Nat} (hk : k < 24) (hr : r < 4) (hd : d < 10) : pPlant (nI k) (nI r) (nI d) = .inr (0 + 4 * k + r, d) := by
  unfold pPlant; rw [if_pos ⟨rg_i (show k ≤ 23 by omega) (by decide), rg_i (show r ≤ 3 by omega) (by decide)⟩, if_pos (rg_i (show d ≤ 9 by omega) (by decide)), nn_n (show k < 2147483648 by omega), nn_n (show r < 2147483648 by omega), nn_n (show d < 2147483648 by omega)]
theorem pW_y {c r d : Nat} (hc : c < 7) (hr : r < 4) (hd : d < 10) : pWeigh (nI c) (nI r) (nI d) = .inr (120 + 4 * c + r, d) := by
  unfold pWeigh; rw [if_pos ⟨rg_i (show c ≤ 6 by omega) (by decide), rg_i (show r ≤ 3 by omega) (by decide)⟩, if_pos (rg_i (show d ≤ 9 by omega) (by decide)), nn_n (show c < 2147483648 by omega), nn_n (show r < 2147483648 by omega), nn_n (show d < 2147483648 by omega)]
theorem pG_y {c k d : Nat} (hc : c < 7) (hk : k < 7) (hd : d < 10) (h : ¬ c = k) : pGrudge (nI c) (nI k) (nI d) = .inr (148 + 7 * c + k, d) := by
  unfold pGrudge; rw [if_pos ⟨rg_i (show c ≤ 6 by omega) (by decide), rg_i (show k ≤ 6 by omega) (by decide)⟩, if_pos ⟨fun q => h ((nI_eq (by omega) (by omega)).mp q), rg_i (show d ≤ 9 by omega) (by decide)⟩, nn_n (show c < 2147483648 by omega), nn_n (show k < 2147483648 by omega), nn_n (show d < 2147483648 by omega)]
theorem pG_e {c k d : Nat} (hc : c < 7) (h : c = k) : pGrudge (nI c) (nI k) (nI d) = .inl (-2) := by
  subst h
  unfold pGrudge; rw [if_pos ⟨rg_i (show c ≤ 6 by omega) (by decide), rg_i (show c ≤ 6 by omega) (by decide)⟩, if_neg (fun q => q.1 rfl)]
theorem pS_y {a d : Nat} (ha : a < 2) (hd : d < 11) (h0 : a = 0 → d < 2) (h1 : a = 1 → 0 < d) : pSet (nI a) (nI d) = .inr (197 + a, d) := by
  unfold pSet
  rw [if_pos (rg_i (show a ≤ 1 by omega) (by decide)), if_pos (by
    rcases (show a = 0 ∨ a = 1 by omega) with rfl | rfl
    · exact Or.inl ⟨by decide, rg_i (by have := h0 rfl; omega) (by decide)⟩
    · exact Or.inr ⟨by decide, nI_nlt (by have := h1 rfl; omega) (by omega), nI_nlt (by omega) (by decide)⟩), nn_n (show a < 2147483648 by omega), nn_n (show d < 2147483648 by omega)]
theorem pV_y {k c : Nat} (hk : k < 24) (hc : c < 8) : pGive (nI k) (nI c) = .inr (96 + k, c) := by
  unfold pGive; rw [if_pos ⟨rg_i (show k ≤ 23 by omega) (by decide), rg_i (show c ≤ 7 by omega) (by decide)⟩, nn_n (show k < 2147483648 by omega), nn_n (show c < 2147483648 by omega)]
theorem pP_24 : pPlant (nI 24) (nI 0) (nI 1) = .inl (-1) := by unfold pPlant; rw [if_neg (by decide)]
theorem pP_10 : pPlant (nI 0) (nI 0) (nI 10) = .inl (-2) := by unfold pPlant; rw [if_pos (by decide), if_neg (by decide)]
theorem pW_4 : pWeigh (nI 0) (nI 4) (nI 1) = .inl (-1) := by unfold pWeigh; rw [if_neg (by decide)]
theorem pV_8 : pGive (nI 0) (nI 8) = .inl (-1) := by unfold pGive; rw [if_neg (by decide)]
theorem pS_10 : pSet (nI 1) (nI 0) = .inl (-2) := by unfold pSet; rw [if_pos (by decide), if_neg (by decide)]
theorem ch_e {M : Nat → Nat} {i d : Nat} (h : M i = d) : chA M (.inr (i, d)) = -5 := if_pos h
theorem ch_n {M : Nat → Nat} {i d : Nat} (h : ¬ M i = d) : chA M (.inr (i, d)) = nI (M i) := if_neg h
theorem ch_at (M : Nat → Nat) (i d : Nat) : chM M (.inr (i, d)) i = d := by
  show (if M i = d then M else va_up M i d) i = d
  by_cases h : M i = d
  · rw [if_pos h]; exact h
  · rw [if_neg h]; exact up_eq _ _ _
theorem ch_o {M : Nat → Nat} {i d j : Nat} (h : ¬ j = i) : chM M (.inr (i, d)) j = M j := by
  show (if M i = d then M else va_up M i d) j = M j
  by_cases h1 : M i = d
  · rw [if_pos h1]
  · rw [if_neg h1]; exact up_ne h
theorem ch_iv {n : Nat} {M : Nat → Nat} {i d : Nat} (hv : q_iv n M) (hg : okG (.inr (i, d))) (hi : i < 199) (hdg : ∀ c, c < 7 → ¬ 148 + 7 * c + c = i) : q_iv n (chM M (.inr (i, d))) :=
  ⟨ok_ch hv.1 hg, by rw [ch_o (show ¬ 200 = i by omega), ch_o (show ¬ 199 = i by omega)]; exact hv.2.1, by rw [ch_o (show ¬ 199 = i by omega)]; exact hv.2.2.1, by rw [ch_o (show ¬ 201 = i by omega)]; exact hv.2.2.2.1, fun c hc => (ch_o (hdg c hc)).trans (hv.2.2.2.2 c hc)⟩
theorem oG_p {k r d : Nat} (hk : k < 24) (hr : r < 4) (hd : d < 10) : okG (.inr (0 + 4 * k + r, d)) := ⟨fun _ => hd, fun q => by dsimp only at q; omega, fun q => by dsimp only at q; omega, fun q => by dsimp only at q; omega, fun q => by dsimp only at q; omega⟩
theorem oG_w {c r d : Nat} (hc : c < 7) (hr : r < 4) (hd : d < 10) : okG (.inr (120 + 4 * c + r, d)) := ⟨fun q => by dsimp only at q; omega, fun q q2 => by dsimp only at q2; omega, fun _ _ => hd, fun q => by dsimp only at q; omega, fun q => by dsimp only at q; omega⟩
theorem oG_g {c k d : Nat} (hc : c < 7) (hk : k < 7) (hd : d < 10) : okG (.inr (148 + 7 * c + k, d)) := ⟨fun q => by dsimp only at q; omega, fun q q2 => by dsimp only at q2; omega, fun _ _ => hd, fun q => by dsimp only at q; omega, fun q => by dsimp only at q; omega⟩
theorem oG_s {a d : Nat} (ha : a < 2) (hd : d < 11) (h0 : a = 0 → d < 2) (h1 : a = 1 → 0 < d) : okG (.inr (197 + a, d)) := ⟨fun q => by dsimp only at q; omega, fun q q2 => by dsimp only at q2; omega, fun q q2 => by dsimp only at q2; omega, fun q => by dsimp only at q ⊢; exact h0 (by omega), fun q => by dsimp only at q ⊢; exact ⟨h1 (by omega), hd⟩⟩
theorem oG_v {k c : Nat} (hk : k < 24) (hc : c < 8) : okG (.inr (96 + k, c)) := ⟨fun q => by dsimp only at q; omega, fun _ _ => hc, fun q => by dsimp only at q; omega, fun q => by dsimp only at q; omega, fun q => by dsimp only at q; omega⟩
/-! the law's own numbers -/
def lo (v : Int32) (n : Nat) : Nat := v.toBitVec.toNat % 2147483648 % n
theorem lo_lt {v : Int32} {n : Nat} (h : 0 < n) : lo v n < n := Nat.mod_lt _ h
theorem lo_a (v : Int32) : v &&& 2147483647 = nI (v.toBitVec.toNat % 2147483648) := pk_and v 31 (by decide)
def m2 (v : Int32) : Nat := v.toBitVec.toNat % 4
theorem m2_lt (v : Int32) : m2 v < 4 := Nat.mod_lt _ (by decide)
theorem m2_a (v : Int32) : v &&& nI 3 = nI (m2 v) := pk_and v 2 (by decide)
def m1b (v : Int32) : Nat := v.toBitVec.toNat % 2
theorem m1b_lt (v : Int32) : m1b v < 2 := Nat.mod_lt _ (by decide)
theorem m1b_a (v : Int32) : v &&& nI 1 = nI (m1b v) := pk_and v 1 (by decide)
