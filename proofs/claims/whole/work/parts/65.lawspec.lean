/-! both programs' states, held together -/
theorem nI_self (x : Int32) : x = nI x.toBitVec.toNat := Int32.toBitVec_inj.mp (by
  show x.toBitVec = BitVec.ofNat 32 x.toBitVec.toNat
  simp)
theorem nI_and31 (x : Int32) : ∃ a, a < 32 ∧ x &&& nI 31 = nI a := ⟨x.toBitVec.toNat &&& 31, by have := @Nat.and_le_right x.toBitVec.toNat 31; omega, (congrArg (fun z => z &&& nI 31) (nI_self x)).trans (nI_land _ _)⟩
def chN (x : Int32) : Nat := x.toBitVec.toNat % 65536
theorem chN_lt (x : Int32) : chN x < 65536 := Nat.mod_lt _ (by decide)
theorem i2c_n (x : Int32) : (x.toUInt32 % 65536).toInt32 = nI (chN x) := Int32.toBitVec_inj.mp (by
  show x.toBitVec % BitVec.ofNat 32 65536 = BitVec.ofNat 32 (x.toBitVec.toNat % 65536)
  apply BitVec.eq_of_toNat_eq
  rw [BitVec.toNat_umod, BitVec.toNat_ofNat, BitVec.toNat_ofNat, show (65536 : Nat) % 2 ^ 32 = 65536 from rfl]
  omega)
def LI (M P Q T : Nat → Nat) (R : Nat → Nat → Nat) (Sn DO : Nat → Nat) (kn ik ln : Nat) : Prop := ok M ∧ kn ≤ 4 ∧ (∀ j, j < kn → ok (R j) ∧ ∀ i, i < 202 → R j i = P (202 * j + i)) ∧ ik < 2 ∧ (¬ ik = 0 → ok Sn ∧ ∀ i, i < 202 → Sn i = Q i) ∧ ln ≤ 60 ∧ (∀ j, j < 60 → T j < 65536) ∧ dOk DO
theorem pushK_le {kn : Nat} (hk : kn ≤ 4) : pushK kn ≤ 4 := by unfold pushK; split <;> omega
theorem LI_push {M P : Nat → Nat} {R : Nat → Nat → Nat} {kn : Nat} (h0 : ok M) (hk : kn ≤ 4) (h : ∀ j, j < kn → ok (R j) ∧ ∀ i, i < 202 → R j i = P (202 * j + i)) : ∀ j, j < pushK kn → ok (rcR kn R M j) ∧ ∀ i, i < 202 → rcR kn R M j i = pushP P M kn (202 * j + i) := by
  by_cases q : kn = 4
  · subst q
    intro j hj
    have hj4 : j < 4 := hj
    by_cases q3 : j = 3
    · subst q3
      have e : rcR 4 R M 3 = M := rfl
      rw [e]
      refine ⟨h0, fun i hi => ?_⟩
      show M i = cpA (shf P 606) M (202 * 3) 202 (202 * 3 + i)
      rw [cpA_in hi]
    · have e : rcR 4 R M j = R (j + 1) := by
        show (if j = 3 then M else R ((j + 1) % 4)) = R (j + 1)
        rw [if_neg q3, Nat.mod_eq_of_lt (by omega)]
      rw [e]
      have hj1 := h (j + 1) (by omega)
      refine ⟨hj1.1, fun i hi => ?_⟩
      show R (j + 1) i = cpA (shf P 606) M (202 * 3) 202 (202 * j + i)
      rw [cpA_out (by omega), hj1.2 i hi]
      unfold shf; rw [if_pos (by omega), show 202 + (202 * j + i) = 202 * (j + 1) + i by omega]
  · intro j hj
    have hj4 : j < kn + 1 := by unfold pushK at hj; rw [if_neg q] at hj; exact hj
    have er : rcR kn R M = rU R kn M := if_neg q
    have ep : pushP P M kn = cpA P M (202 * kn) 202 := (pushP_b q).symm
    rw [er, ep]
    by_cases q3 : j = kn
    · subst q3
      have e : rU R j M j = M := if_pos rfl
      rw [e]
      refine ⟨h0, fun i hi => ?_⟩
      rw [cpA_in hi]
    · have e : rU R kn M j = R j := if_neg q3
      rw [e]
      have hj1 := h j (by omega)
      refine ⟨hj1.1, fun i hi => ?_⟩
      rw [cpA_out (by omega), hj1.2 i hi]
section LAWS
variable {M P Q T Sn DO DO' m1 m2 p2 : Nat → Nat} {B R b1 r1 : Nat → Nat → Nat} {kn ik ln k1 k2 : Nat} {r r' : Int32}
theorem L_gen (hI : LI M P Q T R Sn DO kn ik ln) {C : Prop} (hm : ok m2) (hd : dOk DO') (h1 : hQ kn B R M C b1 r1 k1) (h2 : (C ∧ p2 = pushP P M kn ∧ k2 = pushK kn) ∨ (¬ C ∧ p2 = P ∧ k2 = kn)) : k1 = k2 ∧ LI m2 p2 Q T r1 Sn DO' k2 ik ln := by
  obtain ⟨i0, i1, i2, i3, i4, i5, i6, i7⟩ := hI
  rcases h1 with ⟨c, -, e2, e3⟩ | ⟨c, -, e2, e3⟩ <;> rcases h2 with ⟨c', f1, f2⟩ | ⟨c', f1, f2⟩
  · subst e2; subst e3; subst f1; subst f2
    exact ⟨rfl, hm, pushK_le i1, LI_push i0 i1 i2, i3, i4, i5, i6, hd⟩
  · exact absurd c c'
  · exact absurd c' c
  · subst e2; subst e3; subst f1; subst f2
    exact ⟨rfl, hm, i1, i2, i3, i4, i5, i6, hd⟩
theorem L_same {m m' : Nat → Nat} (h : m = m') : ∀ j, j < 202 → m' j = m j := fun j _ => by rw [h]
def okG (o : cG) : Prop := match o with
  | .inl _ => True
  | .inr q => (q.1 < 96 → q.2 < 10) ∧ (96 ≤ q.1 → q.1 < 120 → q.2 < 8) ∧ (120 ≤ q.1 → q.1 < 197 → q.2 < 10) ∧ (q.1 = 197 → q.2 < 2) ∧ (q.1 = 198 → 0 < q.2 ∧ q.2 < 11)
theorem ok_ch (h0 : ok M) {o : cG} (h : okG o) : ok (chM M o) := by
  cases o with
  | inl e => exact h0
  | inr q =>
    show ok (if M q.1 = q.2 then M else va_up M q.1 q.2)
    split
    · exact h0
    · exact ok_va h0 h.1 h.2.1 h.2.2.1 h.2.2.2.1 h.2.2.2.2
theorem L_ch (hI : LI M P Q T R Sn DO kn ik ln) {o : cG} (hg : okG o) (h1 : cQ M kn B R o r m1 b1 r1 k1) (h2 : chQ M P kn o r' m2 p2 k2) : r = r' ∧ (∀ j, j < 202 → m2 j = m1 j) ∧ k1 = k2 ∧ LI m2 p2 Q T r1 Sn DO k2 ik ln := by
  obtain ⟨a1, a2, a3⟩ := h1
  obtain ⟨b1, b2, b3, b4⟩ := h2
  have hq := L_gen (m2 := m2) (p2 := p2) (k2 := k2) hI (by rw [b2]; exact ok_ch hI.1 hg) hI.2.2.2.2.2.2.2 a3 (by
    cases o with
    | inl e => exact Or.inr ⟨fun z => z, b3, b4⟩
    | inr q =>
      by_cases z : M q.1 = q.2
      · exact Or.inr ⟨fun w => w z, b3.trans (if_pos z), b4.trans (if_pos z)⟩
      · exact Or.inl ⟨z, b3.trans (if_neg z), b4.trans (if_neg z)⟩)
  exact ⟨a1.trans b1.symm, L_same (a2.trans b2.symm), hq.1, hq.2⟩
theorem okG_plant (x y z : Int32) : okG (pPlant x y z) := by
  unfold pPlant; split
  · next h =>
    split
    · next h2 =>
      obtain ⟨a, ha, rfl⟩ := rg_of h.1 (by decide)
      obtain ⟨b, hb, rfl⟩ := rg_of h.2 (by decide)
      obtain ⟨d, hd, rfl⟩ := rg_of h2 (by decide)
      rw [nn_n (by omega), nn_n (by omega), nn_n (by omega)]
      exact ⟨fun _ => by dsimp only; omega, fun q => by dsimp only at q ⊢; omega, fun q => by dsimp only at q ⊢; omega, fun q => by dsimp only at q ⊢; omega, fun q => by dsimp only at q ⊢; omega⟩
    · exact trivial
  · exact trivial
theorem okG_weigh (x y z : Int32) : okG (pWeigh x y z) := by
  unfold pWeigh; split
  · next h =>
    split
    · next h2 =>
      obtain ⟨a, ha, rfl⟩ := rg_of h.1 (by decide)
      obtain ⟨b, hb, rfl⟩ := rg_of h.2 (by decide)
      obtain ⟨d, hd, rfl⟩ := rg_of h2 (by decide)
      rw [nn_n (by omega), nn_n (by omega), nn_n (by omega)]
      exact ⟨fun q => by dsimp only at q ⊢; omega, fun q => by dsimp only at q ⊢; omega, fun q => by dsimp only at q ⊢; omega, fun q => by dsimp only at q ⊢; omega, fun q => by dsimp only at q ⊢; omega⟩
    · exact trivial
  · exact trivial
theorem okG_grudge (x y z : Int32) : okG (pGrudge x y z) := by
  unfold pGrudge; split
  · next h =>
    split
    · next h2 =>
      obtain ⟨a, ha, rfl⟩ := rg_of h.1 (by decide)
      obtain ⟨b, hb, rfl⟩ := rg_of h.2 (by decide)
      obtain ⟨d, hd, rfl⟩ := rg_of h2.2 (by decide)
      rw [nn_n (by omega), nn_n (by omega), nn_n (by omega)]
      exact ⟨fun q => by dsimp only at q ⊢; omega, fun q => by dsimp only at q ⊢; omega, fun q => by dsimp only at q ⊢; omega, fun q => by dsimp only at q ⊢; omega, fun q => by dsimp only at q ⊢; omega⟩
    · exact trivial
  · exact trivial
theorem okG_give (x y : Int32) : okG (pGive x y) := by
  unfold pGive; split
  · next h =>
    obtain ⟨a, ha, rfl⟩ := rg_of h.1 (by decide)
    obtain ⟨b, hb, rfl⟩ := rg_of h.2 (by decide)
    rw [nn_n (by omega), nn_n (by omega)]
    exact ⟨fun q => by dsimp only at q ⊢; omega, fun q => by dsimp only at q ⊢; omega, fun q => by dsimp only at q ⊢; omega, fun q => by dsimp only at q ⊢; omega, fun q => by dsimp only at q ⊢; omega⟩
  · exact trivial
theorem okG_set (x y : Int32) : okG (pSet x y) := by
  unfold pSet; split
  · next h =>
    split
    · next h2 =>
      obtain ⟨a, ha, rfl⟩ := rg_of h (by decide)
      rcases h2 with ⟨e, h2⟩ | ⟨e, h2⟩
      · obtain ⟨b, hb, rfl⟩ := rg_of h2 (by decide)
        have e2 : a = 0 := (nI_e0 (by omega)).mp e
        rw [nn_n (by omega), nn_n (by omega)]
        exact ⟨fun q => by dsimp only at q ⊢; omega, fun q => by dsimp only at q ⊢; omega, fun q => by dsimp only at q ⊢; omega, fun q => by dsimp only at q ⊢; omega, fun q => by dsimp only at q ⊢; omega⟩
      · obtain ⟨b, hb, rfl⟩ := set_n (x := nI a) (Or.inr ⟨e, h2⟩)
        have e2 : ¬ a = 0 := fun z => e ((nI_e0 (by omega)).mpr z)
        have e3 : 1 ≤ b := by
          rcases Nat.eq_zero_or_pos b with z | z
          · subst z; exact absurd (by decide : nI 0 < nI 1) h2.1
          · exact z
        rw [nn_n (by omega), nn_n (by omega)]
        exact ⟨fun q => by dsimp only at q ⊢; omega, fun q => by dsimp only at q ⊢; omega, fun q => by dsimp only at q ⊢; omega, fun q => by dsimp only at q ⊢; omega, fun q => by dsimp only at q ⊢; omega⟩
    · exact trivial
  · exact trivial
theorem A4_e {a a' : Int32} {b b' c c' : Nat → Nat} {d d' : Nat} (h : (a, b, c, d) = (a', b', c', d')) : a = a' ∧ b = b' ∧ c = c' ∧ d = d' := by cases h; exact ⟨rfl, rfl, rfl, rfl⟩
theorem L_div (hI : LI M P Q T R Sn DO kn ik ln) {x : Int32} (h1 : (r = (aDiv M M kn x).1 ∧ m1 = (aDiv M M kn x).2.1) ∧ hQ kn B R M (pty x) b1 r1 k1 ∧ dOk DO') (h2 : (r', m2, p2, k2) = aDiv M P kn x) : r = r' ∧ (∀ j, j < 202 → m2 j = m1 j) ∧ k1 = k2 ∧ LI m2 p2 Q T r1 Sn DO' k2 ik ln := by
  obtain ⟨⟨a1, a2⟩, a3, a4⟩ := h1
  unfold aDiv at h2 a1 a2
  by_cases z : pty x
  · rw [if_pos z] at h2 a1 a2
    obtain ⟨e1, e2, e3, e4⟩ := A4_e h2
    obtain ⟨A, hA, rfl⟩ := pty_of z
    have hq := L_gen (m2 := m2) hI (by rw [e2, nn_n (by omega)]; exact dM_ok hI.1 hA.1 hA.2) a4 a3 (Or.inl ⟨z, e3, e4⟩)
    exact ⟨a1.trans e1.symm, L_same (a2.trans e2.symm), hq.1, hq.2⟩
  · rw [if_neg z] at h2 a1 a2
    obtain ⟨e1, e2, e3, e4⟩ := A4_e h2
    have hq := L_gen (m2 := m2) hI (by rw [e2]; exact hI.1) a4 a3 (Or.inr ⟨z, e3, e4⟩)
    exact ⟨a1.trans e1.symm, L_same (a2.trans e2.symm), hq.1, hq.2⟩
theorem L_trade (hI : LI M P Q T R Sn DO kn ik ln) {x y : Int32} (h1 : (r = (aTrade M M kn x y).1 ∧ m1 = (aTrade M M kn x y).2.1) ∧ hQ kn B R M ((rg x 6 ∧ rg y 6) ∧ ¬ x = y ∧ rs M (ow M 0) (nn x) (nn y) = 0) b1 r1 k1) (h2 : (r', m2, p2, k2) = aTrade M P kn x y) : r = r' ∧ (∀ j, j < 202 → m2 j = m1 j) ∧ k1 = k2 ∧ LI m2 p2 Q T r1 Sn DO k2 ik ln := by
  obtain ⟨⟨a1, a2⟩, a3⟩ := h1
  have hd := hI.2.2.2.2.2.2.2
  unfold aTrade at h2 a1 a2
  by_cases z1 : rg x 6 ∧ rg y 6
  · rw [if_pos z1] at h2 a1 a2
    by_cases z2 : x = y
    · rw [if_pos z2] at h2 a1 a2
      obtain ⟨e1, e2, e3, e4⟩ := A4_e h2
      have hq := L_gen (m2 := m2) hI (by rw [e2]; exact hI.1) hd a3 (Or.inr ⟨fun w => w.2.1 z2, e3, e4⟩)
      exact ⟨a1.trans e1.symm, L_same (a2.trans e2.symm), hq.1, hq.2⟩
    · rw [if_neg z2] at h2 a1 a2
      by_cases z3 : rs M (ow M 0) (nn x) (nn y) = 0
      · rw [if_pos z3] at h2 a1 a2
        obtain ⟨e1, e2, e3, e4⟩ := A4_e h2
        obtain ⟨a, ha, rfl⟩ := rg_of z1.1 (by decide)
        obtain ⟨b, hb, rfl⟩ := rg_of z1.2 (by decide)
        have hq := L_gen (m2 := m2) hI (by rw [e2, nn_n (by omega), nn_n (by omega)]; exact ok_up (trA_ok hI.1 (Or.inl rfl) (by omega) (by omega)) (by decide)) hd a3 (Or.inl ⟨⟨z1, z2, z3⟩, e3, e4⟩)
        exact ⟨a1.trans e1.symm, L_same (a2.trans e2.symm), hq.1, hq.2⟩
      · rw [if_neg z3] at h2 a1 a2
        obtain ⟨e1, e2, e3, e4⟩ := A4_e h2
        have hq := L_gen (m2 := m2) hI (by rw [e2]; exact hI.1) hd a3 (Or.inr ⟨fun w => z3 w.2.2, e3, e4⟩)
        exact ⟨a1.trans e1.symm, L_same (a2.trans e2.symm), hq.1, hq.2⟩
  · rw [if_neg z1] at h2 a1 a2
    obtain ⟨e1, e2, e3, e4⟩ := A4_e h2
    have hq := L_gen (m2 := m2) hI (by rw [e2]; exact hI.1) hd a3 (Or.inr ⟨fun w => z1 w.1, e3, e4⟩)
    exact ⟨a1.trans e1.symm, L_same (a2.trans e2.symm), hq.1, hq.2⟩
theorem L_settle (hI : LI M P Q T R Sn DO kn ik ln) (h1 : ∃ P1, qSettle M M kn r m1 P1 k1 ∧ hQ kn B R M (¬ (bsf M (ow M 0) 49).1 = 0) b1 r1 k1) (h2 : qSettle M P kn r' m2 p2 k2) : r = r' ∧ (∀ j, j < 202 → m2 j = m1 j) ∧ k1 = k2 ∧ LI m2 p2 Q T r1 Sn DO k2 ik ln := by
  obtain ⟨P1, a1, a2⟩ := h1
  obtain ⟨e1, e2, e3, -⟩ := qSettle_1 a1 h2
  have hok : ok m2 ∧ ((¬ (bsf M (ow M 0) 49).1 = 0 ∧ p2 = pushP P M kn ∧ k2 = pushK kn) ∨ (¬ ¬ (bsf M (ow M 0) 49).1 = 0 ∧ p2 = P ∧ k2 = kn)) := by
    rcases h2 with ⟨b1, b2, b3, b4, b5⟩ | ⟨b1, b2, b3, n, b4, b5, b6⟩
    · exact ⟨by rw [b3]; exact hI.1, Or.inr ⟨fun w => w b1, b4, b5⟩⟩
    · exact ⟨by rw [b6]; exact sM_ok hI.1 b4.1, Or.inl ⟨b1, b2, b3⟩⟩
  have hq := L_gen hI hok.1 hI.2.2.2.2.2.2.2 a2 hok.2
  exact ⟨e1, L_same e2, hq.1, hq.2⟩
theorem L_perf (hI : LI M P Q T R Sn DO kn ik ln) (h1 : (r = (aPerf M M T kn ln).1 ∧ m1 = (aPerf M M T kn ln).2.1) ∧ hQ kn B R M ((fT T ln).1 = true) b1 r1 k1 ∧ dOk DO') (h2 : (r', m2, p2, k2) = aPerf M P T kn ln) : r = r' ∧ (∀ j, j < 202 → m2 j = m1 j) ∧ k1 = k2 ∧ LI m2 p2 Q T r1 Sn DO' k2 ik ln := by
  obtain ⟨⟨a1, a2⟩, a3, a4⟩ := h1
  unfold aPerf at h2 a1 a2
  by_cases z : (fT T ln).1 = true
  · rw [if_pos z] at h2 a1 a2
    obtain ⟨e1, e2, e3, e4⟩ := A4_e h2
    have hq := L_gen (m2 := m2) hI (by rw [e2]; exact dos_ok hI.1 z (Nat.le_refl _)) a4 a3 (Or.inl ⟨z, e3, e4⟩)
    exact ⟨a1.trans e1.symm, L_same (a2.trans e2.symm), hq.1, hq.2⟩
  · rw [if_neg z] at h2 a1 a2
    obtain ⟨e1, e2, e3, e4⟩ := A4_e h2
    have hq := L_gen (m2 := m2) hI (by rw [e2]; exact hI.1) a4 a3 (Or.inr ⟨z, e3, e4⟩)
    exact ⟨a1.trans e1.symm, L_same (a2.trans e2.symm), hq.1, hq.2⟩
theorem gvn_c {M M' : Nat → Nat} (h : ∀ j, j < 202 → M' j = M j) : gvn M' = gvn M := by
  unfold gvn; congr 1
  exact sm_c (fun k hk => by
    show bb (ow M' 0 k = 7) = bb (ow M 0 k = 7)
    unfold ow; rw [h _ (by omega)])
theorem L_rest (hI : LI M P Q T R Sn DO kn ik ln) (h1 : (r = (if ik = 0 then -5 else nI (gvn Sn)) ∧ m1 = (if ik = 0 then M else Sn)) ∧ hQ kn B R M (¬ ik = 0) b1 r1 k1) (h2 : (r', m2, p2, k2) = aRestore M P Q kn ik) : r = r' ∧ (∀ j, j < 202 → m2 j = m1 j) ∧ k1 = k2 ∧ LI m2 p2 Q T r1 Sn DO k2 ik ln := by
  obtain ⟨⟨a1, a2⟩, a3⟩ := h1
  have hd := hI.2.2.2.2.2.2.2
  unfold aRestore at h2
  by_cases z : ik = 0
  · rw [if_pos z] at h2 a1 a2
    obtain ⟨e1, e2, e3, e4⟩ := A4_e h2
    have hq := L_gen (m2 := m2) hI (by rw [e2]; exact hI.1) hd a3 (Or.inr ⟨fun w => w z, e3, e4⟩)
    exact ⟨a1.trans e1.symm, L_same (a2.trans e2.symm), hq.1, hq.2⟩
  · rw [if_neg z] at h2 a1 a2
    obtain ⟨e1, e2, e3, e4⟩ := A4_e h2
    have hs := hI.2.2.2.2.1 z
    have hm : ∀ j, j < 202 → cpA M Q 0 202 j = Sn j := fun j hj => by
      have := cpA_in (F := M) (M := Q) (o := 0) (n := 202) hj
      rw [Nat.zero_add] at this; rw [this, hs.2 j hj]
    have hq := L_gen (m2 := m2) hI (by rw [e2]; exact ag_ok hs.1 hm) hd a3 (Or.inl ⟨z, e3, e4⟩)
    refine ⟨a1.trans ((congrArg nI (gvn_c hm).symm).trans e1.symm), ?_, hq.1, hq.2⟩
    intro j hj
    rw [e2, a2, hm j hj]
theorem A3_e {a a' : Int32} {b b' : Nat → Nat} {d d' : Nat} (h : (a, b, d) = (a', b', d')) : a = a' ∧ b = b' ∧ d = d' := by cases h; exact ⟨rfl, rfl, rfl⟩
theorem L_undo (hI : LI M P Q T R Sn DO kn ik ln) (h1 : r = (if kn = 0 then -5 else nI (kn - 1)) ∧ m1 = (if kn = 0 then M else R (kn - 1)) ∧ k1 = (if kn = 0 then kn else kn - 1)) (h2 : (r', m2, k2) = aUndo M P kn) : r = r' ∧ (∀ j, j < 202 → m2 j = m1 j) ∧ k1 = k2 ∧ LI m2 P Q T R Sn DO k2 ik ln := by
  obtain ⟨a1, a2, a3⟩ := h1
  unfold aUndo at h2
  obtain ⟨i0, i1, i2, i3, i4, i5, i6, i7⟩ := hI
  by_cases z : kn = 0
  · rw [if_pos z] at h2 a1 a2 a3
    obtain ⟨e1, e2, e3⟩ := A3_e h2
    exact ⟨a1.trans e1.symm, L_same (a2.trans e2.symm), a3.trans e3.symm, by rw [e2]; exact i0, by omega, fun j hj => i2 j (by omega), i3, i4, i5, i6, i7⟩
  · rw [if_neg z] at h2 a1 a2 a3
    obtain ⟨e1, e2, e3⟩ := A3_e h2
    have hs := i2 (kn - 1) (by omega)
    have hm : ∀ j, j < 202 → cpA M (blk P (kn - 1)) 0 202 j = R (kn - 1) j := fun j hj => by
      have := cpA_in (F := M) (M := blk P (kn - 1)) (o := 0) (n := 202) hj
      rw [Nat.zero_add] at this; rw [this, hs.2 j hj]; rfl
    refine ⟨a1.trans e1.symm, ?_, a3.trans e3.symm, by rw [e2]; exact ag_ok hs.1 hm, by omega, fun j hj => i2 j (by omega), i3, i4, i5, i6, i7⟩
    intro j hj
    rw [e2, a2, hm j hj]
theorem L_keep (hI : LI M P Q T R Sn DO kn ik ln) : LI M P (cpA Q M 0 202) T R M DO kn 1 ln := by
  obtain ⟨i0, i1, i2, i3, i4, i5, i6, i7⟩ := hI
  refine ⟨i0, i1, i2, by decide, fun _ => ⟨i0, fun j hj => ?_⟩, i5, i6, i7⟩
  have := cpA_in (F := Q) (M := M) (o := 0) (n := 202) hj
  rw [Nat.zero_add] at this; rw [this]
theorem L_type (hI : LI M P Q T R Sn DO kn ik ln) {ch n1 n2 : Nat} {t1 t2 : Nat → Nat} (hc : ch < 65536) (h1 : (r, t1, n1) = aType T ln ch) (h2 : (r', t2, n2) = aType T ln ch) : r = r' ∧ t1 = t2 ∧ n1 = n2 ∧ LI M P Q t2 R Sn DO kn ik n2 := by
  obtain ⟨i0, i1, i2, i3, i4, i5, i6, i7⟩ := hI
  obtain ⟨e1, e2, e3⟩ := A3_e (h1.trans h2.symm)
  refine ⟨e1, e2, e3, i0, i1, i2, i3, i4, ?_, ?_, i7⟩
  · unfold aType at h2
    by_cases z : ln = 60
    · rw [if_pos z] at h2; have := (A3_e h2).2.2; omega
    · rw [if_neg z] at h2; have := (A3_e h2).2.2; omega
  · intro j hj
    unfold aType at h2
    by_cases z : ln = 60
    · rw [if_pos z] at h2; rw [(A3_e h2).2.1]; exact i6 j hj
    · rw [if_neg z] at h2; rw [(A3_e h2).2.1]
      unfold va_up; split
      · exact hc
      · exact i6 j hj
theorem L_clear (hI : LI M P Q T R Sn DO kn ik ln) : LI M P Q T R Sn DO kn ik 0 := ⟨hI.1, hI.2.1, hI.2.2.1, hI.2.2.2.1, hI.2.2.2.2.1, Nat.zero_le _, hI.2.2.2.2.2.2.1, hI.2.2.2.2.2.2.2⟩
theorem L_row (hI : LI M P Q T R Sn DO kn ik ln) (hm : ∀ j, j < 202 → m2 j = M j) (hd : dOk DO') : LI m2 P Q T R Sn DO' kn ik ln := ⟨ag_ok hI.1 hm, hI.2.1, hI.2.2.1, hI.2.2.2.1, hI.2.2.2.2.1, hI.2.2.2.2.2.1, hI.2.2.2.2.2.2.1, hd⟩
end LAWS
/-- a class's row, told by another one that is alike below 202 -/
theorem rc_cut {M M' : Nat → Nat} {n o : Nat} (h : ∀ j, j < 202 → M' j = M j) (hn : o + n ≤ 202) : cut n o M' = cut n o M := cut_c (fun j hj => h _ (by omega))
theorem rc_vv {M M' : Nat → Nat} (h : ∀ j, j < 202 → M' j = M j) : vv M' = vv M := vv_o (fun j hj => h j (by omega))
theorem LI_new : LI iM (fun _ => 0) (fun _ => 0) (fun _ => 0) (fun _ => iM) iM (fun _ => 0) 0 0 0 := ⟨iM_ok, Nat.zero_le _, fun j hj => absurd hj (Nat.not_lt_zero j), by decide, fun h => absurd rfl h, Nat.zero_le _, fun j _ => (by decide : 0 < 65536), fun k _ => (by decide : 0 < 8)⟩
section RWL
variable {p : Program} {l : Launch} {e : Env} {R : Room} {s : State} {m : MethodId} {args : Array Value} {below : List Frame} {meth : Method} {c : Code} {H : Heap} {locs : List Loc} {cells slots : Nat} {Q : State → Prop}
variable {cc : ByteArray} {pc : Nat} {ls : Array Slot} {rest : List Value}
theorem nr_sld (hx : p.tables.exec = Jvm.exec) (hb : c.code = cc) {b L : Nat} {xs : Nat → Int32} {A : Nat → Prop} (hX : va_X b L xs s s.heap) (hbl : b < s.heap.size) (hbA : ¬ A b) (hS : va_S A s.heap H locs) {j : Nat} (hj : j < L) (hL : L ≤ 2048) (hdg : decode cc pc = .ok (.iaload, 1))
    (kk : W p l e R s m args below meth c H locs cells slots Q (F0 m (pc + 1) ls (.int (xs j) :: rest))) : W p l e R s m args below meth c H locs cells slots Q (F0 m pc ls (.int (nI j) :: .ref b :: rest)) :=
  va_sld hx hb hX hbl hbA hS (vp_in_nI hj (by omega)) hdg (by rw [nI_clamp (by omega)]; exact kk)
theorem nr_slen (hx : p.tables.exec = Jvm.exec) (hb : c.code = cc) {b L : Nat} {xs : Nat → Int32} {A : Nat → Prop} (hX : va_X b L xs s s.heap) (hbl : b < s.heap.size) (hbA : ¬ A b) (hS : va_S A s.heap H locs) (hdg : decode cc pc = .ok (.arraylength, 1))
    (kk : W p l e R s m args below meth c H locs cells slots Q (F0 m (pc + 1) ls (.int (nI L) :: rest))) : W p l e R s m args below meth c H locs cells slots Q (F0 m pc ls (.ref b :: rest)) := va_slen hx hb hX hbl hbA hS hdg kk
end RWL
