-- 48: the model's rows
theorem gCp_step (M : gM) (q a b k : Nat) (h : a + k < b ∨ b + k ≤ a + k) : gU (gCp M q a q b k) q (b + k) (gCp M q a q b k q (a + k)) = gCp M q a q b (k + 1) := by
  funext r i
  by_cases h1 : r = q ∧ i = b + k
  · obtain ⟨rfl, rfl⟩ := h1
    rw [gU_same, gCp_in (n := k + 1) rfl (by omega) (by omega)]
    rcases h with h | h
    · rw [gCp_off (by omega)]
      congr 1; omega
    · rw [gCp_off (by omega)]
      congr 1; omega
  · rw [gU_off _ _ h1]
    by_cases h2 : r = q ∧ b ≤ i ∧ i < b + k
    · rw [gCp_in h2.1 h2.2.1 h2.2.2, gCp_in (n := k + 1) h2.1 h2.2.1 (by omega)]
    · rw [gCp_off h2, gCp_off (by omega)]
theorem gCp_zero (M : gM) (q a p b : Nat) : gCp M q a p b 0 = M := by
  funext r i
  rw [gCp_off (by omega)]
theorem l_copyRow (C : gCl) (a b m : Nat) (M : gM) (ha : a + m ≤ 443) (hb : b + m ≤ 443) (h : a + m ≤ b ∨ b ≤ a) : ∀ (r k n : Nat), k + r = m → r < n → L_X10_copyRow_3 C n (a : Int) (b : Int) (m : Int) (k : Int) (gCp M 82 a 82 b k) = some (gCp M 82 a 82 b m, none) := by
  intro r
  induction r with
  | zero =>
    intro k n hk hn
    obtain ⟨n, rfl⟩ : ∃ z, n = z + 1 := ⟨n - 1, by omega⟩
    rw [q_X10_copyRow_3, show k = m by omega]
    simp (disch := omega) only [gInb_t, gLt_t, gLt_f, gEq_t, gEq_f, gIx_nat, gIx_id, gIf, cond_true, cond_false, gCi_some, gCv_some, gCr_some, gB01_0, gB01_1, gBi_01, gU_same, gU_off, gW_id, Int.toNat_natCast, Int.toNat_add, Int.toNat_mul, Int.reduceToNat, Nat.add_zero, Int.add_zero]
  | succ r ih =>
    intro k n hk hn
    obtain ⟨n, rfl⟩ : ∃ z, n = z + 1 := ⟨n - 1, by omega⟩
    rw [q_X10_copyRow_3, gIx_e (x := (b : Int) + (k : Int)) (n := b + k) (by omega) (by omega), gIx_e (x := (a : Int) + (k : Int)) (n := a + k) (by omega) (by omega), gCp_step M 82 a b k (by omega)]
    have := ih (k + 1) n (by omega) (by omega)
    simp (disch := omega) only [gInb_t, gLt_t, gLt_f, gEq_t, gEq_f, gIx_nat, gIx_id, gIf, cond_true, cond_false, gCi_some, gCv_some, gCr_some, gB01_0, gB01_1, gBi_01, gU_same, gU_off, gW_id, Int.toNat_natCast, Int.toNat_add, Int.toNat_mul, Int.reduceToNat, Nat.add_zero, Int.add_zero]
    exact this
theorem s_copyRow (N d a b m : Nat) (M : gM) (hN : m < N) (ha : a + m ≤ 443) (hb : b + m ≤ 443) (h : a + m ≤ b ∨ b ≤ a) : gEv N (d + 1) 114 [.inr (.inr 82), .inl (a : Int), .inl (b : Int), .inl (m : Int)] M = some (gCp M 82 a 82 b m, none) := by
  rw [q_X10_copyRow]
  have := l_copyRow (gEv N d) a b m M ha hb h m 0 N (by omega) (by omega)
  rw [gCp_zero] at this
  exact this
theorem kCp_row {M : gM} {n a b : Nat} {t : Int} {F : Nat → List Int} (h : kH M n a t F) (hf : ∀ p, p < n → kOkL (F p)) (hn : n ≤ 7) (m : Nat) (hm : 29 ≤ m) : kH (gCp M 82 a 82 b m) n b t F := by
  refine ⟨?_, fun p hp => ⟨?_, fun j hj => ?_⟩⟩
  · rw [gCp_in rfl (by omega) (by omega), show a + (b + 28 - b) = a + 28 by omega]; exact h.1
  · rw [gCp_in rfl (by omega) (by omega), show a + (b + 21 + p - b) = a + 21 + p by omega]; exact (h.2 p hp).1
  · have := (hf p hp).1
    rw [gCp_in rfl (by omega) (by omega), show a + (b + 3 * p + j - b) = a + 3 * p + j by omega]; exact (h.2 p hp).2 j hj
theorem fadeL_add {a b : Int} (ha : 0 ≤ a) : ∀ l : List Int, fadeL a (fadeL b l) = fadeL (b + a) l
  | [] => rfl
  | x :: l => by
    have ih := fadeL_add (b := b) ha l
    simp only [fadeL]
    by_cases h : 0 < x - b
    · rw [if_pos h]
      simp only [fadeL]
      by_cases h2 : 0 < x - b - a
      · rw [if_pos h2, if_pos (by omega), ih, show x - b - a = x - (b + a) by omega]
      · rw [if_neg h2, if_neg (by omega), ih]
    · rw [if_neg h, if_neg (by omega), ih]
theorem fadeL_zero : ∀ l : List Int, (∀ x ∈ l, 1 ≤ x ∧ x ≤ 99) → fadeL 0 l = l
  | [], _ => rfl
  | x :: l, h => by
    have hx := h x (by simp)
    simp only [fadeL]
    rw [if_pos (by omega), fadeL_zero l (fun y hy => h y (by simp [hy])), Int.sub_zero]
theorem fadeL_mem {b : Int} (hb : 0 ≤ b) : ∀ l : List Int, (∀ x ∈ l, 1 ≤ x ∧ x ≤ 99) → ∀ x ∈ fadeL b l, 1 ≤ x ∧ x ≤ 99
  | [], _, x, h => by simp [fadeL] at h
  | y :: l, h, x, hx => by
    have hy := h y (by simp)
    have ih := fadeL_mem hb l (fun z hz => h z (by simp [hz]))
    simp only [fadeL] at hx
    by_cases h2 : 0 < y - b
    · rw [if_pos h2] at hx
      rcases List.mem_cons.mp hx with rfl | h3
      · omega
      · exact ih x h3
    · rw [if_neg h2] at hx
      exact ih x hx
theorem fadeL_ok {b : Int} (hb : 0 ≤ b) {l : List Int} (h : kOkL l) : kOkL (fadeL b l) := ⟨Nat.le_trans (fadeL_le b l) h.1, fadeL_mem hb l h.2⟩
theorem fadesN_le (K : Nat) (h : K < 5) : fadesN K ≤ 6 := by
  match K, h with
  | 0, _ => decide
  | 1, _ => decide
  | 2, _ => decide
  | 3, _ => decide
  | 4, _ => decide
/-- the model's kinds -/
def kKm (M : gM) (n : Nat) (K : Nat → Nat) : Prop := M 82 29 = (n : Int) ∧ ∀ p, p < n → K p < 5 ∧ M 82 (30 + p) = ((K p : Nat) : Int)
/-- griefs behind c lents -/
def kFd (K : Nat → Nat) (F : Nat → List Int) (c : Nat) : Nat → List Int := fun p => fadeL ((c * fadesN (K p) : Nat) : Int) (F p)
theorem kFd_ok {n c : Nat} {K : Nat → Nat} {F : Nat → List Int} (h : ∀ p, p < n → kOkL (F p)) : ∀ p, p < n → kOkL (kFd K F c p) := fun p hp => fadeL_ok (by omega) (h p hp)
theorem l_passes (N d b n : Nat) (K : Nat → Nat) (t : Int) (F : Nat → List Int) (hN : 10 ≤ N) (hb : b = 0 ∨ 62 ≤ b) (hb2 : b ≤ 414) (hn : n ≤ 7) (hf : ∀ p, p < n → kOkL (F p)) : ∀ (r k z : Nat) (M : gM), k + r = n → r < z → kKm M n K → kH M n b t (fun p => if p < k then fadeL ((fadesN (K p) : Nat) : Int) (F p) else F p) →
    ∃ M', L_X10_passes_2 (gEv N (d + 1)) z (b : Int) (k : Int) M = some (M', none) ∧ kH M' n b (t + 1) (fun p => if p < n then fadeL ((fadesN (K p) : Nat) : Int) (F p) else F p) ∧ (∀ q i, ¬ (q = 82 ∧ b ≤ i ∧ i < b + 29) → M' q i = M q i) := by
  intro r
  induction r with
  | zero =>
    intro k z M hk hz hK hH
    obtain ⟨z, rfl⟩ : ∃ y, z = y + 1 := ⟨z - 1, by omega⟩
    have hkn : k = n := by omega
    subst hkn
    rw [q_X10_passes_2, gIx_e (x := 29) (n := 29) rfl (by omega), hK.1, gIx_e (x := (b : Int) + 28) (n := b + 28) (by omega) (by omega), hH.1]
    refine ⟨gU M 82 (b + 28) (t + 1), by simp (disch := omega) only [gInb_t, gLt_t, gLt_f, gEq_t, gEq_f, gIx_nat, gIx_id, gIf, cond_true, cond_false, gCi_some, gCv_some, gCr_some, gB01_0, gB01_1, gBi_01, gU_same, gU_off, gW_id, Int.toNat_natCast, Int.toNat_add, Int.toNat_mul, Int.reduceToNat, Nat.add_zero, Int.add_zero], ⟨by rw [gU_same], fun p hp => ⟨?_, fun j hj => ?_⟩⟩, ?_⟩
    · rw [gU_off _ _ (by omega)]; exact (hH.2 p hp).1
    · have := (hf p hp).1
      have h2 := fadeL_le ((fadesN (K p) : Nat) : Int) (F p)
      simp only [if_pos hp] at hj
      rw [gU_off _ _ (by omega)]; exact (hH.2 p hp).2 j (by simp only [if_pos hp]; exact hj)
    · intro q i hq
      rw [gU_off _ _ (by omega)]
  | succ r ih =>
    intro k z M hk hz hK hH
    obtain ⟨z, rfl⟩ : ∃ y, z = y + 1 := ⟨z - 1, by omega⟩
    have hkn : k < n := by omega
    have hK5 := hK.2 k hkn
    have h6 := fadesN_le (K k) hK5.1
    have hHk := hH.2 k hkn
    simp only [Nat.lt_irrefl, if_false] at hHk
    have hfk := hf k hkn
    obtain ⟨M1, e1, e2, e3, e4⟩ := s_mfade N d b k ((fadesN (K k) : Nat) : Int) (F k) M (by omega) (by omega) (by omega) (by omega) hfk.1 hHk.1 hfk.2 hHk.2
    have hK1 : kKm M1 n K := ⟨by rw [e4 _ _ (by omega)]; exact hK.1, fun p hp => ⟨(hK.2 p hp).1, by rw [e4 _ _ (by omega)]; exact (hK.2 p hp).2⟩⟩
    have hH1 : kH M1 n b t (fun p => if p < k + 1 then fadeL ((fadesN (K p) : Nat) : Int) (F p) else F p) := by
      refine ⟨by rw [e4 _ _ (by omega)]; exact hH.1, fun p hp => ?_⟩
      by_cases hpk : p = k
      · subst hpk
        simp only [show p < p + 1 by omega, if_true]
        exact ⟨e2, e3⟩
      · have hi : (p < k + 1) = (p < k) := by simp only [eq_iff_iff]; omega
        simp only [hi]
        refine ⟨by rw [e4 _ _ (by omega)]; exact (hH.2 p hp).1, fun j hj => ?_⟩
        have h3 : (if p < k then fadeL ((fadesN (K p) : Nat) : Int) (F p) else F p).length ≤ 3 := by
          have := (hf p hp).1
          have h2 := fadeL_le ((fadesN (K p) : Nat) : Int) (F p)
          split <;> omega
        rw [e4 _ _ (by omega)]; exact (hH.2 p hp).2 j hj
    obtain ⟨M2, f1, f2, f3⟩ := ih (k + 1) z M1 (by omega) (by omega) hK1 hH1
    refine ⟨M2, ?_, f2, ?_⟩
    · rw [q_X10_passes_2, gIx_e (x := 29) (n := 29) rfl (by omega), hK.1, gIx_e (x := 30 + (k : Int)) (n := 30 + k) (by omega) (by omega), hK5.2, s_mfades N d (K k) M hK5.1]
      simp (disch := omega) only [gInb_t, gLt_t, gLt_f, gEq_t, gEq_f, gIx_nat, gIx_id, gIf, cond_true, cond_false, gCi_some, gCv_some, gCr_some, gB01_0, gB01_1, gBi_01, gU_same, gU_off, gW_id, Int.toNat_natCast, Int.toNat_add, Int.toNat_mul, Int.reduceToNat, Nat.add_zero, Int.add_zero, e1]
      exact f1
    · intro q i hq
      rw [f3 q i hq, e4 q i (by omega)]
theorem s_passes (N d b n : Nat) (K : Nat → Nat) (t : Int) (F : Nat → List Int) (M : gM) (hN : 10 ≤ N) (hb : b = 0 ∨ 62 ≤ b) (hb2 : b ≤ 414) (hn : n ≤ 7) (hf : ∀ p, p < n → kOkL (F p)) (hK : kKm M n K) (hH : kH M n b t F) :
    ∃ M', gEv N (d + 2) 124 [.inr (.inr 82), .inl (b : Int)] M = some (M', none) ∧ kH M' n b (t + 1) (fun p => fadeL ((fadesN (K p) : Nat) : Int) (F p)) ∧ (∀ q i, ¬ (q = 82 ∧ b ≤ i ∧ i < b + 29) → M' q i = M q i) := by
  obtain ⟨M', e1, e2, e3⟩ := l_passes N d b n K t F hN hb hb2 hn hf n 0 N M (by omega) (by omega) hK ⟨hH.1, fun p hp => by simp only [Nat.not_lt_zero, if_false]; exact hH.2 p hp⟩
  refine ⟨M', by rw [q_X10_passes]; exact e1, ⟨e2.1, fun p hp => ?_⟩, e3⟩
  have := e2.2 p hp
  simp only [if_pos hp] at this
  exact this
theorem kFd_pass {K : Nat → Nat} {F : Nat → List Int} {c : Nat} : (fun p => fadeL ((fadesN (K p) : Nat) : Int) (kFd K F c p)) = kFd K F (c + 1) := by
  funext p
  simp only [kFd]
  rw [fadeL_add (by omega)]
  congr 1
  rw [Nat.add_mul, Nat.one_mul]
  omega
theorem kFd_zero {K : Nat → Nat} {F : Nat → List Int} {p : Nat} (h : kOkL (F p)) : kFd K F 0 p = F p := by
  simp only [kFd, Nat.zero_mul]
  exact fadeL_zero _ h.2
theorem kH_ext {M : gM} {n b : Nat} {t t' : Int} {F F' : Nat → List Int} (h : kH M n b t F) (ht : t = t') (e : ∀ p, p < n → F p = F' p) : kH M n b t' F' := ⟨h.1.trans ht, fun p hp => by rw [← e p hp]; exact h.2 p hp⟩
theorem kG_ext {M : gM} {n g : Nat} {t t' : Int} {F F' : Nat → List Int} (h : kG M n g t F) (ht : t = t') (e : ∀ p, p < n → F p = F' p) : kG M n g t' F' := ⟨h.1.trans ht, fun p hp => by rw [← e p hp]; exact h.2 p hp⟩
