/-! shares -/
def wOk (M O SW : Nat → Nat) : Prop := ∀ c, c < 7 → ∀ d, d < 7 → SW (c * 7 + d) = sh M O c d
def zf (F : Nat → Nat) (n : Nat) : Nat → Nat := fun j => if j < n then 0 else F j
theorem zf_0 (F : Nat → Nat) : zf F 0 = F := by funext j; unfold zf; rw [if_neg (by omega)]
theorem zf_s (F : Nat → Nat) (n : Nat) : va_up (zf F n) n 0 = zf F (n + 1) := by
  funext j; unfold va_up zf
  by_cases e : j = n
  · subst e; rw [if_pos rfl, if_pos (by omega)]
  · rw [if_neg e]; split
    · rw [if_pos (by omega)]
    · rw [if_neg (by omega)]
/-- the worths of the shares when the plots below n are counted -/
def swF (F M O : Nat → Nat) (n : Nat) : Nat → Nat := fun j => if j < 49 then sm (fun k => if O k = j % 7 then wr M (j / 7) k else 0) n else F j
theorem swF_0 (F M O : Nat → Nat) : zf F 49 = swF F M O 0 := by funext j; unfold zf swF; split <;> rfl
theorem swF_ok (F M O : Nat → Nat) : wOk M O (swF F M O 24) := fun c hc d hd => by
  unfold swF sh; rw [if_pos (by omega), show (c * 7 + d) % 7 = d by omega, show (c * 7 + d) / 7 = c by omega]
/-- .. and of the plot n those to the cousins below i -/
def sxF (F M O : Nat → Nat) (n i : Nat) : Nat → Nat := fun j => if j < 49 ∧ j / 7 < i ∧ j % 7 = O n then sm (fun k => if O k = j % 7 then wr M (j / 7) k else 0) n + wr M (j / 7) n else swF F M O n j
theorem sxF_0 (F M O : Nat → Nat) (n : Nat) : sxF F M O n 0 = swF F M O n := by funext j; unfold sxF; rw [if_neg (by omega)]
theorem sxF_7 (F M O : Nat → Nat) (n : Nat) : sxF F M O n 7 = swF F M O (n + 1) := by
  funext j; unfold sxF swF
  by_cases h : j < 49
  · rw [if_pos h, if_pos h]
    by_cases h2 : j % 7 = O n
    · rw [if_pos (by omega), sm_s, if_pos h2.symm]
    · rw [if_neg (fun q => h2 q.2.2), sm_s, if_neg (fun q => h2 q.symm)]; rfl
  · rw [if_neg (fun q => h q.1), if_neg h, if_neg h]
theorem swF_n (F M O : Nat → Nat) {n : Nat} (h : ¬ O n < 7) : swF F M O n = swF F M O (n + 1) := by
  funext j; unfold swF; split
  · rw [sm_s, if_neg (by omega)]; rfl
  · rfl
theorem sxF_s (F M O : Nat → Nat) {n i : Nat} (hi : i < 7) (ho : O n < 7) : va_up (sxF F M O n i) (i * 7 + O n) (sxF F M O n i (i * 7 + O n) + wr M i n) = sxF F M O n (i + 1) := by
  funext j
  have e0 : sxF F M O n i (i * 7 + O n) = sm (fun k => if O k = O n then wr M i k else 0) n := by
    unfold sxF; rw [if_neg (by omega)]; unfold swF; rw [if_pos (by omega), show (i * 7 + O n) % 7 = O n by omega, show (i * 7 + O n) / 7 = i by omega]
  rw [e0]
  show (if j = i * 7 + O n then sm (fun k => if O k = O n then wr M i k else 0) n + wr M i n else sxF F M O n i j) = sxF F M O n (i + 1) j
  by_cases e : j = i * 7 + O n
  · rw [if_pos e]; unfold sxF; rw [if_pos (by omega), show j % 7 = O n by omega, show j / 7 = i by omega]
  · rw [if_neg e]; unfold sxF
    by_cases h : j < 49 ∧ j / 7 < i ∧ j % 7 = O n
    · rw [if_pos h, if_pos (by omega)]
    · rw [if_neg h, if_neg (by omega)]
/-- two columns exchanged in the rows below n -/
def xW (W : Nat → Nat) (a b n : Nat) : Nat → Nat := fun j => if j / 7 < n then W (j / 7 * 7 + swp a b (j % 7)) else W j
theorem xW_0 (W : Nat → Nat) (a b : Nat) : xW W a b 0 = W := by funext j; unfold xW; rw [if_neg (by omega)]
theorem xW_at {W : Nat → Nat} {a b n x : Nat} (hx : x < 7) : xW W a b n (7 * n + x) = W (7 * n + x) := by unfold xW; rw [if_neg (by omega)]
theorem xW_s (W : Nat → Nat) {a b n : Nat} (ha : a < 7) (hb : b < 7) : va_up (va_up (xW W a b n) (7 * n + a) (W (7 * n + b))) (7 * n + b) (W (7 * n + a)) = xW W a b (n + 1) := by
  funext j
  show (if j = 7 * n + b then W (7 * n + a) else if j = 7 * n + a then W (7 * n + b) else xW W a b n j) = xW W a b (n + 1) j
  unfold xW swp
  by_cases h1 : j = 7 * n + b
  · rw [if_pos h1, if_pos (by omega)]
    by_cases hab : a = b
    · rw [if_pos (by omega)]; congr 1; omega
    · rw [if_neg (by omega), if_pos (by omega)]; congr 1; omega
  · rw [if_neg h1]
    by_cases h2 : j = 7 * n + a
    · rw [if_pos h2, if_pos (by omega), if_pos (by omega)]; congr 1; omega
    · rw [if_neg h2]
      by_cases h3 : j / 7 < n
      · rw [if_pos h3, if_pos (show j / 7 < n + 1 by omega)]
      · rw [if_neg h3]
        by_cases h4 : j / 7 < n + 1
        · rw [if_pos h4, if_neg (show ¬ j % 7 = a by omega), if_neg (show ¬ j % 7 = b by omega)]; congr 1; omega
        · rw [if_neg h4]
theorem xW_2 (W : Nat → Nat) {a b : Nat} (ha : a < 7) (hb : b < 7) : xW (xW W a b 7) a b 7 = W := by
  funext j; unfold xW
  by_cases h : j / 7 < 7
  · have hs := swp_lt ha hb (Nat.mod_lt j (show 0 < 7 by decide))
    rw [if_pos h, if_pos (by omega), show (j / 7 * 7 + swp a b (j % 7)) % 7 = swp a b (j % 7) by omega, show (j / 7 * 7 + swp a b (j % 7)) / 7 = j / 7 by omega, swp_swp]; congr 1; omega
  · rw [if_neg h, if_neg h]
theorem xW_ok {M O W : Nat → Nat} (h : wOk M O W) {a b : Nat} (ha : a < 7) (hb : b < 7) : wOk M (swO O a b) (xW W a b 7) := fun c hc d hd => by
  have hs := swp_lt ha hb hd
  unfold xW
  rw [if_pos (by omega), show (c * 7 + d) % 7 = d by omega, show (c * 7 + d) / 7 = c by omega, h c hc _ hs, sh_sw]
theorem ev_mx {M O : Nat → Nat} (h0 : ok M) {c d : Nat} (hc : c < 7) (hd : d < 7) (h : ¬ c = d) : (if nI 0 < nI (se M O c d) - nI (sh M O c c) then nI (se M O c d) - nI (sh M O c c) else nI 0) = nI (ev M O c d) := by
  have h1 := se_le (O := O) h0 hc hd
  have h3 := sh_le (O := O) (d := c) h0 hc
  unfold ev; rw [if_neg h]
  by_cases q : sh M O c c < se M O c d
  · rw [if_pos (by rw [nI_0]; exact (sub_pos (by omega) (by omega)).mpr q), pk_sub (by omega)]
  · rw [if_neg (by rw [nI_0]; exact fun z => q ((sub_pos (by omega) (by omega)).mp z))]; congr 1; omega
theorem me_mx (M O : Nat → Nat) (c n : Nat) : me M O c (n + 1) = Nat.max (me M O c n) (ev M O c n) := by
  show (if ev M O c n ≤ me M O c n then me M O c n else ev M O c n) = _
  split
  · exact (Nat.max_eq_left (by assumption)).symm
  · exact (Nat.max_eq_right (by omega)).symm
def ea (M O : Nat → Nat) (c B : Nat) : Nat → Nat := sm (fun d => if bt B d = 1 then ev M O c d else 0)
theorem sm_sp (f : Nat → Nat) (a : Nat) : ∀ n, sm f (a + n) = sm f a + sm (fun d => f (a + d)) n
  | 0 => rfl
  | n + 1 => by
    show sm f (a + n) + f (a + n) = sm f a + (sm (fun d => f (a + d)) n + f (a + n))
    rw [sm_sp f a n]; omega
theorem sm_7 (f : Nat → Nat) : ∀ n, sm f (7 * n) = sm (fun c => sm (fun d => f (7 * c + d)) 7) n
  | 0 => rfl
  | n + 1 => by rw [sm_s, ← sm_7 f n]; exact sm_sp f (7 * n) 7
theorem sm_49 (f : Nat → Nat) : sm f 49 = sm (fun c => sm (fun d => f (7 * c + d)) 7) 7 := sm_7 f 7
theorem es_ea (M O : Nat → Nat) (A B : Nat) : es M O A B = sm (fun c => if bt A c = 1 then ea M O c B 7 else 0) 7 := by
  unfold es; rw [sm_49]
  refine sm_c (fun c hc => ?_)
  show sm (fun d => if bt A ((7 * c + d) / 7) = 1 ∧ bt B ((7 * c + d) % 7) = 1 then ev M O ((7 * c + d) / 7) ((7 * c + d) % 7) else 0) 7 = (if bt A c = 1 then ea M O c B 7 else 0)
  by_cases h : bt A c = 1
  · rw [if_pos h]
    refine sm_c (fun d hd => ?_)
    rw [show (7 * c + d) / 7 = c by omega, show (7 * c + d) % 7 = d by omega]
    by_cases h2 : bt B d = 1
    · rw [if_pos ⟨h, h2⟩, if_pos h2]
    · rw [if_neg (fun q => h2 q.2), if_neg h2]
  · rw [if_neg h]
    have e : sm (fun d => if bt A ((7 * c + d) / 7) = 1 ∧ bt B ((7 * c + d) % 7) = 1 then ev M O ((7 * c + d) / 7) ((7 * c + d) % 7) else 0) 7 = sm (fun _ => 0) 7 := sm_c (fun d hd => by
      rw [show (7 * c + d) / 7 = c by omega, if_neg (fun q => h q.1)])
    rw [e]; rfl
def td (M O : Nat → Nat) : Nat → Nat := sm (fun k => bb (¬ k % 7 ≤ k / 7 ∧ rs M O (k / 7) (k % 7) = 0))
theorem td_s (M O : Nat → Nat) {a b : Nat} (hb : b < 7) (hab : a < b) : td M O (7 * a + (b + 1)) = td M O (7 * a + b) + bb (rs M O a b = 0) := by
  show td M O (7 * a + b) + bb (¬ (7 * a + b) % 7 ≤ (7 * a + b) / 7 ∧ rs M O ((7 * a + b) / 7) ((7 * a + b) % 7) = 0) = _
  rw [show (7 * a + b) % 7 = b by omega, show (7 * a + b) / 7 = a by omega, bb_c (show (¬ b ≤ a ∧ rs M O a b = 0) ↔ rs M O a b = 0 from ⟨fun q => q.2, fun q => ⟨by omega, q⟩⟩)]
theorem td_k (M O : Nat → Nat) {a : Nat} (ha : a < 7) : ∀ {b : Nat}, b ≤ a + 1 → td M O (7 * a + b) = td M O (7 * a)
  | 0, _ => rfl
  | b + 1, hb => by
    show td M O (7 * a + b) + bb (¬ (7 * a + b) % 7 ≤ (7 * a + b) / 7 ∧ rs M O ((7 * a + b) / 7) ((7 * a + b) % 7) = 0) = _
    rw [td_k M O ha (b := b) (by omega)]
    rw [bb_f (fun q => q.1 (by omega))]; rfl
theorem bsf_t (M O : Nat → Nat) {a b : Nat} (hb : b < 7) (hab : a < b) : bsf M O (7 * a + (b + 1)) = if rs M O a b = 0 then (if (bsf M O (7 * a + b)).1 = 0 ∨ es M (swO O a b) 127 127 < (bsf M O (7 * a + b)).2 then (10 * a + b, es M (swO O a b) 127 127) else bsf M O (7 * a + b)) else bsf M O (7 * a + b) := by
  show bsf M O (7 * a + b + 1) = _
  rw [bsf_s, show (7 * a + b) % 7 = b by omega, show (7 * a + b) / 7 = a by omega]
  by_cases h : rs M O a b = 0
  · rw [if_pos ⟨by omega, h⟩, if_pos h]
  · rw [if_neg (fun q => h q.2), if_neg h]
theorem bsf_k (M O : Nat → Nat) {a : Nat} (ha : a < 7) : ∀ {b : Nat}, b ≤ a + 1 → bsf M O (7 * a + b) = bsf M O (7 * a)
  | 0, _ => rfl
  | b + 1, hb => by
    show bsf M O (7 * a + b + 1) = _
    rw [bsf_s, if_neg (fun q => q.1 (by omega)), bsf_k M O ha (b := b) (by omega)]
def fbA (b : Nat × Nat) (x : Nat) : Nat := if b.1 = 0 then x else b.1 / 10
def fbB (b : Nat × Nat) (x : Nat) : Nat := if b.1 = 0 then x else b.1 % 10
def fbC (b : Nat × Nat) (x : Nat) : Nat := if b.1 = 0 then x else b.2
theorem fbA_0 (M O : Nat → Nat) (x : Nat) : fbA (bsf M O (7 * 0)) x = x := rfl
theorem fbB_0 (M O : Nat → Nat) (x : Nat) : fbB (bsf M O (7 * 0)) x = x := rfl
theorem fbC_0 (M O : Nat → Nat) (x : Nat) : fbC (bsf M O (7 * 0)) x = x := rfl
theorem fbA_u {a b s x : Nat} (h : a < b) (hb : b < 7) : fbA (10 * a + b, s) x = a := by
  unfold fbA; dsimp only; rw [if_neg (by omega)]; omega
theorem fbB_u {a b s x : Nat} (h : a < b) (hb : b < 7) : fbB (10 * a + b, s) x = b := by
  unfold fbB; dsimp only; rw [if_neg (by omega)]; omega
theorem fbC_u {a b s x : Nat} (h : a < b) : fbC (10 * a + b, s) x = s := by
  unfold fbC; dsimp only; rw [if_neg (by omega)]
