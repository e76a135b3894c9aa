-- 41: small methods
theorem s_within (N d : Nat) (a b c : Int) (M : gM) (ha : -2147483648 ≤ a ∧ a < 2147483648) (hb : -2147483648 ≤ b ∧ b < 2147483648) (hc : -2147483648 ≤ c ∧ c < 2147483648) : gEv N (d + 1) 91 [.inl a, .inl b, .inl c] M = some (M, some (.inl (gBi (b ≤ a ∧ a ≤ c)))) := by
  rw [q_X9_isWithin, gLt_id ha.1 ha.2 hb.1 hb.2, gLt_id hc.1 hc.2 ha.1 ha.2]
  by_cases h1 : a < b
  · simp [h1, gIf, gB01_0, gBi, Int.not_le.mpr h1]
  · by_cases h2 : c < a
    · simp [h1, h2, gIf, gB01_0, gBi, Int.not_le.mpr h2]
    · simp [h1, h2, gIf, gB01_1, gBi, Int.not_lt.mp h1, Int.not_lt.mp h2]
theorem s_in (N d : Nat) (a b c : Int) (M : gM) (ha : -2147483648 ≤ a ∧ a < 2147483648) (hb : -2147483648 ≤ b ∧ b < 2147483648) (hc : -2147483648 ≤ c ∧ c < 2147483648) : gEv N (d + 1) 99 [.inr (.inl a), .inr (.inl b), .inr (.inl c)] M = some (M, some (.inl (gBi (b ≤ a ∧ a ≤ c)))) := by
  rw [q_X10_in, gLc_lt ha.1 (by omega) hb.1 (by omega), gLc_gt ha.1 (by omega) hc.1 (by omega)]
  by_cases h1 : a < b
  · simp [h1, gIf, gB01_0, gBi, Int.not_le.mpr h1]
  · by_cases h2 : c < a
    · simp [h1, h2, gIf, gB01_0, gBi, Int.not_le.mpr h2]
    · simp [h1, h2, gIf, gB01_1, gBi, Int.not_lt.mp h1, Int.not_lt.mp h2]
theorem gCi_some {α : Type} (M : gM) (x : Int) (K : gM → Int → Option α) : gCi (some (M, some (.inl x))) K = K M x := rfl
theorem gCv_some {α : Type} (M : gM) (K : gM → Option α) : gCv (some (M, none)) K = K M := rfl
theorem gU_same (M : gM) (p j : Nat) (v : Int) : gU M p j v p j = v := by simp [gU]
theorem gU_off (M : gM) {p j q k : Nat} (v : Int) (h : ¬ (q = p ∧ k = j)) : gU M p j v q k = M q k := by simp [gU, h]
theorem gU_p (M : gM) {p j q k : Nat} (v : Int) (h : q ≠ p) : gU M p j v q k = M q k := by simp [gU, h]
theorem s_X7_append (N d : Nat) (a : Int) (M : gM) (h0 : 0 ≤ M 1 1) (h1 : M 1 1 < 200) : gEv N (d + 1) 38 [.inr (.inr 2), .inl a] M = some (gU (gU M 2 (M 1 1).toNat a) 1 1 (M 1 1 + 1), none) := by
  rw [q_X7_append, gLt_id (by omega) (by omega) (by omega) (by omega), gInb_t h0 (by omega) (by omega), gIx_id h0 (by omega), decide_eq_true h1]
  simp [gIf, gU]
theorem s_X9_write (N d : Nat) (a : Int) (M : gM) (ha : -2147483648 ≤ a ∧ a < 2147483648) (h0 : 0 ≤ M 1 1) (h1 : M 1 1 ≤ 200) : gEv N (d + 2) 53 [.inr (.inr 1), .inl a] M = some (if 0 ≤ a ∧ a ≤ 255 then (if M 1 1 < 200 then (gU (gU M 2 (M 1 1).toNat a) 1 1 (M 1 1 + 1), some (.inl (M 1 1 + 1))) else (M, some (.inl (-5)))) else (M, some (.inl (-3)))) := by
  rw [q_X9_write, s_within _ _ _ _ _ _ ha (by omega) (by omega), gCi_some, gBi_eq0, gLt_id (by omega) (by omega) (by omega) (by omega)]
  by_cases hc : 0 ≤ a ∧ a ≤ 255
  · by_cases h2 : M 1 1 < 200
    · rw [s_X7_append _ _ _ _ h0 h2]
      simp [hc, h2, gCv, gU]
    · simp [hc, h2]
  · rw [if_neg hc]
    simp [hc]
theorem s_X10_write (N d : Nat) (a : Int) (M : gM) (ha : -2147483648 ≤ a ∧ a < 2147483648) (h0 : 0 ≤ M 81 4) (h1 : M 81 4 ≤ 200) : gEv N (d + 2) 100 [.inr (.inr 82), .inl a] M = some (if 0 ≤ a ∧ a ≤ 255 then (if M 81 4 < 200 then (gU (gU M 84 (M 81 4).toNat a) 81 4 (M 81 4 + 1), some (.inl (M 81 4 + 1))) else (M, some (.inl (-5)))) else (M, some (.inl (-3)))) := by
  rw [q_X10_write, gW_id ha.1 ha.2]
  rw [show (((0 : Nat) : Int)) = 0 from rfl, show (((255 : Nat) : Int) - (0 : Int)) = 255 from rfl, s_in _ _ _ _ _ _ ha (by omega) (by omega), gCi_some, gBi_eq0, gEq_id (by omega) (by omega) (by omega) (by omega)]
  by_cases hc : 0 ≤ a ∧ a ≤ 255
  · by_cases h2 : M 81 4 < 200
    · rw [gInb_t h0 (by omega) (by omega), gIx_id h0 (by omega)]
      have h3 : ¬ M 81 4 = 200 := by omega
      simp [hc, h2, h3, gIf, gU]
    · have h3 : M 81 4 = 200 := by omega
      simp [hc, h3]
  · rw [if_neg hc]
    simp [hc]
