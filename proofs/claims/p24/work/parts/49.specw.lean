theorem ordF_k {T DG : Nat → Nat} {L i kd pa : Nat} {fi se : Int32} (h : ordF T L i kd fi se pa DG) : kd < 4 := by
  rcases h with ⟨a, b, c⟩ | ⟨a, b, c⟩ | ⟨a, b, c⟩ | ⟨a, b, c⟩ <;> omega
theorem hnd_c (M : Nat → Nat) (a : Nat) : (if wf M a 0 = 0 then 0 else sh M (ow M 0) a a * 100 / wf M a 0) = hnd M a := by unfold hnd; rw [Nat.mul_comm]
theorem bt_one : ∀ a, a < 7 → ∀ c, c < 7 → (bt (2 ^ a) c = 1 ↔ c = a) := by decide +kernel
theorem sm_one (f : Nat → Nat) {a : Nat} (ha : a < 7) : sm (fun c => if bt (2 ^ a) c = 1 then f c else 0) 7 = f a := by
  have e : sm (fun c => if bt (2 ^ a) c = 1 then f c else 0) 7 = sm (fun c => if c = a then f c else 0) 7 := sm_c (fun c hc => by
    show (if bt (2 ^ a) c = 1 then f c else 0) = (if c = a then f c else 0)
    by_cases q : c = a
    · rw [if_pos ((bt_one a ha c hc).mpr q), if_pos q]
    · rw [if_neg (fun z => q ((bt_one a ha c hc).mp z)), if_neg q])
  rw [e]
  rcases (show a = 0 ∨ a = 1 ∨ a = 2 ∨ a = 3 ∨ a = 4 ∨ a = 5 ∨ a = 6 by omega) with rfl | rfl | rfl | rfl | rfl | rfl | rfl <;> simp [sm]
theorem bt_127 : ∀ c, c < 7 → bt 127 c = 1 := by decide +kernel
theorem es_1 (M O : Nat → Nat) {a : Nat} (ha : a < 7) : ea M O a 127 7 = es M O (2 ^ a) 127 := by
  rw [es_ea]; exact (sm_one (fun c => ea M O c 127 7) ha).symm
theorem es_2 (M O : Nat → Nat) {d : Nat} (hd : d < 7) : sm (fun c => ev M O c d) 7 = es M O 127 (2 ^ d) := by
  rw [es_ea]
  exact sm_c (fun c hc => by
    show ev M O c d = (if bt 127 c = 1 then ea M O c (2 ^ d) 7 else 0)
    rw [if_pos (bt_127 c hc)]
    exact (sm_one (fun k => ev M O c k) hd).symm)
