/-! the class's calls -/
theorem vv_o {M M' : Nat → Nat} (h : ∀ j, j < 96 ∨ (120 ≤ j ∧ j < 148) → M j = M' j) : vv M = vv M' := by
  funext j; unfold vv; split
  · exact sm_c (fun r hr => by
      show M (0 + 4 * (j / 7) + r) * M (120 + 4 * (j % 7) + r) = M' (0 + 4 * (j / 7) + r) * M' (120 + 4 * (j % 7) + r)
      rw [h _ (by omega), h _ (by omega)])
  · rfl
theorem up_eq (M : Nat → Nat) (i v : Nat) : va_up M i v i = v := by unfold va_up; rw [if_pos rfl]
theorem up_ne {M : Nat → Nat} {i v j : Nat} (h : j ≠ i) : va_up M i v j = M j := if_neg h
def hQ (kn : Nat) (B R : Nat → Nat → Nat) (M : Nat → Nat) (C : Prop) (b1 r1 : Nat → Nat → Nat) (k1 : Nat) : Prop := (C ∧ b1 = rcB kn B ∧ r1 = rcR kn R M ∧ k1 = pushK kn) ∨ (¬ C ∧ b1 = B ∧ r1 = R ∧ k1 = kn)
theorem hQ_y {kn : Nat} {B R : Nat → Nat → Nat} {M : Nat → Nat} {C : Prop} (h : C) : hQ kn B R M C (rcB kn B) (rcR kn R M) (pushK kn) := Or.inl ⟨h, rfl, rfl, rfl⟩
theorem hQ_n {kn : Nat} {B R : Nat → Nat → Nat} {M : Nat → Nat} {C : Prop} (h : ¬ C) : hQ kn B R M C B R kn := Or.inr ⟨h, rfl, rfl, rfl⟩
def chC (M : Nat → Nat) (o : cG) : Prop := match o with
  | .inl _ => False
  | .inr q => ¬ M q.1 = q.2
def cQ (M : Nat → Nat) (kn : Nat) (B R : Nat → Nat → Nat) (o : cG) (r : Int32) (m1 : Nat → Nat) (b1 r1 : Nat → Nat → Nat) (k1 : Nat) : Prop := r = chA M o ∧ m1 = chM M o ∧ hQ kn B R M (chC M o) b1 r1 k1
theorem cQ_l {M : Nat → Nat} {kn : Nat} {B R : Nat → Nat → Nat} (e : Int32) : cQ M kn B R (.inl e) e M B R kn := ⟨rfl, rfl, hQ_n (fun h => h)⟩
theorem cQ_e {M : Nat → Nat} {kn a t : Nat} {B R : Nat → Nat → Nat} (h : M a = t) : cQ M kn B R (.inr (a, t)) (-5) M B R kn := ⟨(if_pos h).symm, (if_pos h).symm, hQ_n (fun q => q h)⟩
theorem cQ_n {M : Nat → Nat} {kn a t : Nat} {B R : Nat → Nat → Nat} (h : ¬ M a = t) : cQ M kn B R (.inr (a, t)) (nI (M a)) (va_up M a t) (rcB kn B) (rcR kn R M) (pushK kn) := ⟨(if_neg h).symm, (if_neg h).symm, hQ_y h⟩
theorem rg_67 {x : Int32} (h : rg x 7) : rg x 6 ∨ x = nI 7 := by
  obtain ⟨a, ha, rfl⟩ := rg_of h (by decide)
  rcases Nat.lt_or_ge a 7 with q | q
  · exact Or.inl ((rg_n (by omega) (by decide)).mpr (by omega))
  · exact Or.inr (by rw [show a = 7 by omega])
theorem rg_6 {x : Int32} (h : rg x 6) : rg x 7 := ⟨h.1, fun q => h.2 (Int32.lt_trans (by decide) q)⟩
/-- a row that tells worths, grudges and settings alike -/
theorem ag_c0 {M M' : Nat → Nat} (h : ag M M') : cut 96 0 M' = cut 96 0 M := cut_c (fun j hj => (h (0 + j) (by omega) (by omega)).symm)
theorem ag_c1 {M M' : Nat → Nat} (h : ag M M') : cut 28 120 M' = cut 28 120 M := cut_c (fun j hj => (h (120 + j) (by omega) (by omega)).symm)
theorem ag_c2 {M M' : Nat → Nat} (h : ag M M') : cut 49 148 M' = cut 49 148 M := cut_c (fun j hj => (h (148 + j) (by omega) (by omega)).symm)
theorem ag_c4 {M M' : Nat → Nat} (h : ag M M') : cut 2 197 M' = cut 2 197 M := cut_c (fun j hj => (h (197 + j) (by omega) (by omega)).symm)
theorem ag_vv {M M' : Nat → Nat} (h : ag M M') : vv M' = vv M := vv_o (fun j hj => (h j (by omega) (by omega)).symm)
/-- the owners that a division leaves in its own row -/
abbrev rO (M DO : Nat → Nat) (A : Nat) : Nat → Nat := gv (fin M DO A).2.2.1 (fin M DO A).2.1 24 (lb (fin M DO A).1)
abbrev dOk (O : Nat → Nat) : Prop := ∀ k, k < 24 → O k < 8
theorem rO_q {M DO : Nat → Nat} {A : Nat} (h0 : ok M) (hA0 : 0 < A) (hA : A < 128) (hO : dOk DO) : (∀ k, k < 24 → rO M DO A k = dO M A k) ∧ (fin M DO A).2.2.2.1 = dT_ M A ∧ (fin M DO A).2.2.2.2 = dU M A ∧ lb (fin M DO A).1 = dL M A := by
  have c := fin_c (O := DO) (O' := ow M 0) h0 h0 (ag_r M) hA0 hA hO
  exact ⟨c.2.2.2.2, c.2.2.1, c.2.2.2.1, by unfold dL; rw [c.1]⟩
theorem rO_ok {M DO : Nat → Nat} {A : Nat} (h0 : ok M) (hA0 : 0 < A) (hA : A < 128) (hO : dOk DO) : dOk (rO M DO A) := fun k hk => by
  rw [(rO_q h0 hA0 hA hO).1 k hk]; exact dO_lt h0 hA0 hA (ok_ow h0) k hk
theorem dM_ag (M : Nat → Nat) (A : Nat) : ag M (dM M A) := dvM_ag M (Or.inl rfl) _ _ _
theorem dM_own {M O : Nat → Nat} {A : Nat} (h : ∀ k, k < 24 → O k = dO M A k) : cut 24 96 (dM M A) = cpN O (cut 24 96 M) 24 := by
  funext j; unfold cut cpN
  by_cases q : j < 24
  · rw [if_pos q, if_pos q, h j q]
    have := dvM_in M 0 (dO M A) (dT_ M A) (dU M A) q
    rwa [show 0 + 96 + j = 96 + j by omega] at this
  · rw [if_neg q, if_neg q]; exact (if_neg q).symm
theorem dM_199 (M : Nat → Nat) (A : Nat) : dM M A 199 = M 199 + dT_ M A := dvM_t M 0 _ _ _
theorem dM_200 (M : Nat → Nat) (A : Nat) : dM M A 200 = M 200 + dU M A := dvM_u M 0 _ _ _
theorem dM_201 (M : Nat → Nat) (A : Nat) : dM M A 201 = M 201 := by
  show dvM M 0 _ _ _ 201 = M 201
  unfold dvM md; rw [if_neg (by omega), if_neg (by omega), if_neg (by omega)]
theorem wOk_e {M O O' W : Nat → Nat} (h : wOk M O W) (e : ∀ k, k < 24 → O k = O' k) : wOk M O' W := fun c hc d hd => by
  rw [h c hc d hd]; exact sm_c (fun k hk => by show (if O k = d then wr M c k else 0) = (if O' k = d then wr M c k else 0); rw [e k hk])
theorem wOk_m (M SW : Nat → Nat) : wOk M (ow M 0) (swF SW M (cut 24 96 M) 24) := wOk_e (swF_ok SW M _) (fun k hk => ow_cut hk)
theorem wOk_g {M M' O W : Nat → Nat} (h : wOk M O W) (e : ag M M') : wOk M' O W := fun c hc d hd => by
  rw [h c hc d hd]; exact sm_c (fun k hk => by show (if O k = d then wr M c k else 0) = (if O k = d then wr M' c k else 0); rw [ag_wr e hc hk])
theorem cut_ok {M : Nat → Nat} (h : ok M) : dOk (cut 24 96 M) := fun k hk => by rw [cut_at hk]; exact h.2.1 k hk
/-- behind a trade -/
def tM (M : Nat → Nat) (a b : Nat) : Nat → Nat := va_up (trA M 0 a b 24) 201 (M 201 + 1)
theorem tM_ag (M : Nat → Nat) (a b : Nat) : ag M (tM M a b) := tr1_ag M a b _
theorem tM_own (M : Nat → Nat) (a b : Nat) : cut 24 96 (tM M a b) = trO (cut 24 96 M) a b 24 := by
  rw [trO_e]; exact cut_c (fun j hj => up_ne (by omega))
theorem tM_199 (M : Nat → Nat) (a b : Nat) : tM M a b 199 = M 199 := by
  unfold tM; rw [up_ne (by decide)]; unfold trA; rw [if_neg (by omega)]
theorem tM_200 (M : Nat → Nat) (a b : Nat) : tM M a b 200 = M 200 := by
  unfold tM; rw [up_ne (by decide)]; unfold trA; rw [if_neg (by omega)]
theorem tM_201 (M : Nat → Nat) (a b : Nat) : tM M a b 201 = M 201 + 1 := up_eq _ _ _
/-- behind n of the best trades -/
def sM (M : Nat → Nat) (n : Nat) : Nat → Nat := va_up (dvM M 0 (stO M (ow M 0) n) 0 0) 201 (M 201 + n)
theorem sM_0 (M : Nat → Nat) : sM M 0 = M := by
  funext j; unfold sM
  by_cases h : j = 201
  · subst h; rw [up_eq]; rfl
  · rw [up_ne h]; exact congrFun (dvM_0 M 0) j
theorem sM_ag (M : Nat → Nat) (n : Nat) : ag M (sM M n) := fun j h1 h2 => by
  unfold sM; rw [up_ne (by omega)]; exact dvM_ag M (Or.inl rfl) _ _ _ j h1 h2
theorem sM_ok {M : Nat → Nat} (h : ok M) {n : Nat} (hn : ∀ j, j < n → ¬ (bsf M (stO M (ow M 0) j) 49).1 = 0) : ok (sM M n) := ok_up (dvM_ok h (Or.inl rfl) (stO_lt (ok_ow h) hn) 0 0) (by decide)
theorem sM_s (M : Nat → Nat) (n : Nat) {a b : Nat} (ha : a = (bsf M (stO M (ow M 0) n) 49).1 / 10) (hb : b = (bsf M (stO M (ow M 0) n) 49).1 % 10) : tM (sM M n) a b = sM M (n + 1) := by
  subst ha; subst hb
  funext j; unfold tM
  by_cases h : j = 201
  · subst h; unfold sM; rw [up_eq, up_eq, up_eq]; omega
  · rw [up_ne h]; unfold sM; rw [up_ne h]
    have e := congrFun (trA_dvM M 0 (stO M (ow M 0) n) 0 0 ((bsf M (stO M (ow M 0) n) 49).1 / 10) ((bsf M (stO M (ow M 0) n) 49).1 % 10)) j
    show trA (va_up (dvM M 0 (stO M (ow M 0) n) 0 0) 201 (M 201 + n)) 0 _ _ 24 j = dvM M 0 (swO (stO M (ow M 0) n) _ _) 0 0 j
    rw [← e]; unfold trA; rw [up_ne h]
theorem sM_rk {M : Nat → Nat} : ∀ {n : Nat}, (∀ j, j < n → ¬ (bsf M (stO M (ow M 0) j) 49).1 = 0) → rk M (stO M (ow M 0) n) + 2 * n ≤ 42
  | 0, _ => rk_le M _
  | n + 1, h => by
    have h1 := sM_rk (n := n) (fun j hj => h j (by omega))
    have h2 := rk_st (h n (Nat.lt_succ_self n))
    omega
theorem sM_20 {M : Nat → Nat} {n : Nat} (h : ∀ j, j ≤ n → ¬ (bsf M (stO M (ow M 0) j) 49).1 = 0) : n ≤ 20 := by
  have h1 := sM_rk (n := n) (fun j hj => h j (by omega))
  have h2 := rk_st (h n (Nat.le_refl n))
  omega
theorem sM_e {M : Nat → Nat} {n : Nat} (h : ∀ j, j < n → ¬ (bsf M (stO M (ow M 0) j) 49).1 = 0) (hn : 21 ≤ n) : (bsf M (stO M (ow M 0) n) 49).1 = 0 := by
  rcases Nat.decEq (bsf M (stO M (ow M 0) n) 49).1 0 with q | q
  · have h1 := sM_rk h
    have h2 := rk_st q
    omega
  · exact q
theorem sM_ow (M : Nat → Nat) (n : Nat) {k : Nat} (hk : k < 24) : ow (sM M n) 0 k = stO M (ow M 0) n k := by
  show sM M n (0 + 96 + k) = _
  unfold sM; rw [up_ne (by omega)]; exact dvM_in M 0 _ 0 0 hk
theorem fbA_n {b : Nat × Nat} {x : Nat} (h : ¬ b.1 = 0) : fbA b x = b.1 / 10 := if_neg h
theorem fbB_n {b : Nat × Nat} {x : Nat} (h : ¬ b.1 = 0) : fbB b x = b.1 % 10 := if_neg h
theorem fbC_n {b : Nat × Nat} {x : Nat} (h : ¬ b.1 = 0) : fbC b x = b.2 := if_neg h
/-- what the fields tell of an order, by its kind -/
theorem ordF_0 {T DG : Nat → Nat} {L i kd pa : Nat} {fi se : Int32} (h : ordF T L i kd fi se pa DG) (hk : kd = 0) : isS T L i 112 ∧ fi = nI (pN T L (i + 1)) ∧ ∀ k, k < 4 → DG k = dgt T L ((oE T L i).2 - 4 + k) := by
  rcases h with ⟨a, b, c, d⟩ | ⟨a, b, c⟩ | ⟨a, b, c⟩ | ⟨a, b, c⟩
  · exact ⟨a, c, d⟩
  all_goals (exfalso; omega)
theorem ordF_1 {T DG : Nat → Nat} {L i kd pa : Nat} {fi se : Int32} (h : ordF T L i kd fi se pa DG) (hk : kd = 1) : isS T L i 119 ∧ fi = nI (dgt T L (i + 1)) ∧ ∀ k, k < 4 → DG k = dgt T L ((oE T L i).2 - 4 + k) := by
  rcases h with ⟨a, b, c⟩ | ⟨a, b, c, d⟩ | ⟨a, b, c⟩ | ⟨a, b, c⟩
  · exfalso; omega
  · exact ⟨a, c, d⟩
  all_goals (exfalso; omega)
theorem ordF_2 {T DG : Nat → Nat} {L i kd pa : Nat} {fi se : Int32} (h : ordF T L i kd fi se pa DG) (hk : kd = 2) : isS T L i 103 ∧ fi = nI (dgt T L (i + 1)) ∧ se = nI (dgt T L (i + 2)) ∧ DG 0 = dgt T L ((oE T L i).2 - 1) := by
  rcases h with ⟨a, b, c⟩ | ⟨a, b, c⟩ | ⟨a, b, c, d, e⟩ | ⟨a, b, c⟩
  · exfalso; omega
  · exfalso; omega
  · exact ⟨a, c, d, e⟩
  · exfalso; omega
theorem ordF_3 {T DG : Nat → Nat} {L i kd pa : Nat} {fi se : Int32} (h : ordF T L i kd fi se pa DG) (hk : ¬ kd = 0 ∧ ¬ kd = 1 ∧ ¬ kd = 2) : isS T L i 100 ∧ pa = pq T L (i + 1) ((oE T L i).2 - (i + 1)) := by
  rcases h with ⟨a, b, c⟩ | ⟨a, b, c⟩ | ⟨a, b, c⟩ | ⟨a, b, c⟩
  · exfalso; omega
  · exfalso; omega
  · exfalso; omega
  · exact ⟨a, c⟩
/-- the reading place behind k orders -/
def pk (T : Nat → Nat) (L k : Nat) : Nat := if k < (fT T L).2 then qs T L 0 k else L
theorem pk_s {T : Nat → Nat} {L k : Nat} (hf : (fT T L).1 = true) (hk : k < (fT T L).2) : (oE T L (qs T L 0 k)).2 + bb (isS T L (oE T L (qs T L 0 k)).2 59) = pk T L (k + 1) := by
  have h := fT_q hf
  unfold pk
  by_cases q : k + 1 < (fT T L).2
  · rw [if_pos q, bb_t (h.2.2.2.1 k q)]; rfl
  · have e := h.2.2.2.2
    rw [show (fT T L).2 = k + 1 by omega] at e
    have e2 : (oE T L (qs T L 0 k)).2 + 1 = L + 1 := e
    rw [if_neg q, bb_f (fun z => by have := z.1; omega)]; omega
theorem fN_0 {T : Nat → Nat} {L : Nat} : fN (fT T L) = 0 ↔ ¬ (fT T L).1 = true := by
  unfold fN
  by_cases q : (fT T L).1 = true
  · have := (fT_q q).1
    rw [if_pos q]; exact ⟨fun z => by omega, fun z => absurd q z⟩
  · rw [if_neg q]; exact ⟨fun _ => q, fun _ => rfl⟩
theorem fN_le (T : Nat → Nat) (L : Nat) : fN (fT T L) ≤ 60 := by
  unfold fN
  by_cases q : (fT T L).1 = true
  · rw [if_pos q]; exact (fT_q q).2.1
  · rw [if_neg q]; exact Nat.zero_le _
theorem cP_a {M F : Nat → Nat} {p i : Nat} : va_up (cpA M F (0 + 4 * p) i) (0 + (p * 4 + i)) (F i) = cpA M F (0 + 4 * p) (i + 1) := by
  rw [← cpA_s, show 0 + (p * 4 + i) = 0 + 4 * p + i by omega]
theorem cP_w {M F : Nat → Nat} {p i : Nat} : va_up (cpA M F (120 + 4 * p) i) (120 + (p * 4 + i)) (F i) = cpA M F (120 + 4 * p) (i + 1) := by
  rw [← cpA_s, show 120 + (p * 4 + i) = 120 + 4 * p + i by omega]
def tyQ (T : Nat → Nat) (ln ch : Nat) : Int32 × (Nat → Nat) × Nat := aType T ln ch
