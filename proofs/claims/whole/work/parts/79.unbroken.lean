-- 79: the class's lines and next
def hOk (n : Nat) (H : Nat → Nat) : Prop := ∀ x, x < n → H x < 128 ∧ (H x).testBit x = false
theorem and_rs {h s x : Nat} (hh : h < 128) (hs : s < 128) (hx : x < 7) (hb : h.testBit x = false) : (h &&& s = 0) ↔ (h &&& rs s x = 0) := by
  rw [and_zero hh, and_zero hh]
  constructor
  · intro q y hy ⟨y1, y2⟩
    rw [rs_bit s hs x hx y hy] at y2
    simp at y2
    exact q y hy ⟨y1, y2.1⟩
  · intro q y hy ⟨y1, y2⟩
    by_cases hyx : y = x
    · subst hyx
      rw [hb] at y1
      cases y1
    · refine q y hy ⟨y1, ?_⟩
      rw [rs_bit s hs x hx y hy, y2]
      simp [hyx]
theorem plM_len : ∀ s, s < 128 → (plM (els s).length s).length ≤ 5040 := by decide +kernel
theorem un_le (H : Nat → Nat) (s : Nat) (hs : s < 128) : unN H s ≤ 5040 := Nat.le_trans (cnL_le _ _) (plM_len s hs)
theorem l_c32 (C : gCl) (n s : Nat) (x1 : Int) (H : Nat → Nat) (M0 : gM) (hn : n ≤ 7) (hs : s < 2 ^ n) (h58 : M0 58 0 = (n : Int)) (hH : hOk n H) (h60 : ∀ x, x < n → M0 60 x = ((H x : Nat) : Int)) (h62 : ∀ t, t < s → M0 62 t = ((unN H t : Nat) : Int)) : ∀ (r k z a : Nat) (M : gM), k + r = n → 3 * r < z → (∀ q i, ¬ (q = 62 ∧ i = s) → M q i = M0 q i) → M 62 s = (a : Int) → ∃ z' M', z ≤ z' + 3 * r + 1 ∧ L_X3_countUnbroken_32 C z x1 (s : Int) (k : Int) M = L_X3_countUnbroken_18 C z' x1 ((s + 1 : Nat) : Int) M' ∧ M' 62 s = ((a + sumE (fun x => cond (H x &&& rs s x == 0) (unN H (rs s x)) 0) ((List.range' k r).filter (fun x => s.testBit x)) : Nat) : Int) ∧ ∀ q i, ¬ (q = 62 ∧ i = s) → M' q i = M0 q i := by
  have hp := pow_lt n hn
  intro r
  induction r with
  | zero =>
    intro k z a M hk hz hf ha
    obtain ⟨z, rfl⟩ : ∃ y, z = y + 1 := ⟨z - 1, by omega⟩
    refine ⟨z, M, by omega, ?_, by rw [ha]; rfl, hf⟩
    rw [q_X3_countUnbroken_32, hf 58 0 (by omega), h58, gLt_f (by omega) (by omega) (by omega), cond_false, cast_1 s]
  | succ r ih =>
    intro k z a M hk hz hf ha
    obtain ⟨z, rfl⟩ : ∃ y, z = y + 1 := ⟨z - 1, by omega⟩
    obtain ⟨z, rfl⟩ : ∃ y, z = y + 1 := ⟨z - 1, by omega⟩
    obtain ⟨hk1, hk2⟩ := hH k (by omega)
    rw [List.range'_succ]
    have e0 : L_X3_countUnbroken_32 C (z + 1 + 1) x1 (s : Int) (k : Int) M = L_X3_countUnbroken_54 C (z + 1) x1 (s : Int) (k : Int) (bI (s.testBit k)) M := by
      rw [q_X3_countUnbroken_32, hf 58 0 (by omega), h58, m_bit s (by omega) k (by omega), gLt_t (by omega) (by omega) (by omega), cond_true]
      cases s.testBit k
      · rw [bI_f, gEq_f (by decide) (by decide) (by decide) (by decide) (by decide), cond_false]
      · rw [bI_t, gEq_refl, cond_true]
    rw [e0, q_X3_countUnbroken_54, bI_eq0, cast_1 k]
    cases hbit : s.testBit k with
    | false =>
      rw [List.filter_cons_of_neg (by rw [hbit]; decide)]
      obtain ⟨z', M', g0, g1, g2, g3⟩ := ih (k + 1) z a M (by omega) (by omega) hf ha
      refine ⟨z', M', by omega, ?_, g2, g3⟩
      rw [Bool.not_false, cond_true]
      exact g1
    | true =>
      rw [List.filter_cons_of_pos hbit]
      simp only [sumE]
      have hr1 := rs_lt s (by omega) k (by omega) hbit
      rw [Bool.not_true, cond_false, gIx_e (x := (k : Int)) (n := k) rfl (by omega), hf 60 k (by omega), h60 k (by omega), m_and _ hk1 s (by omega), m_rs s (by omega) k (by omega), gIx_e (x := ((rs s k : Nat) : Int)) (n := rs s k) rfl (by omega), gIx_e (x := (s : Int)) (n := s) rfl (by omega), hf 62 (rs s k) (by omega), h62 (rs s k) hr1, ha, gInb_t (x := (k : Int)) (by omega) (by omega) (by omega), gIf_t]
      have hand := and_rs hk1 (show s < 128 by omega) (show k < 7 by omega) hk2
      by_cases h0 : H k &&& s = 0
      · have h1 := hand.mp h0
        obtain ⟨z', M', g0, g1, g2, g3⟩ := ih (k + 1) z (a + unN H (rs s k)) (gU M 62 s (((a + unN H (rs s k) : Nat) : Int))) (by omega) (by omega) (fun q i hq => (gU_off _ _ hq).trans (hf q i hq)) (gU_same _ _ _ _)
        refine ⟨z', M', by omega, ?_, ?_, g3⟩
        · rw [h0, gEq_t (by omega), cond_true, gInb_t (x := (s : Int)) (by omega) (by omega) (by omega), gIf_t, gInb_t (x := ((rs s k : Nat) : Int)) (by omega) (by omega) (by omega), gIf_t, gIf_t]
          exact g1
        · rw [g2, h1, show ((0 : Nat) == 0) = true from rfl, cond_true, Nat.add_assoc]
      · have h1 : (H k &&& rs s k == 0) = false := by simpa using fun q => h0 (hand.mpr q)
        obtain ⟨z', M', g0, g1, g2, g3⟩ := ih (k + 1) z a M (by omega) (by omega) hf ha
        have hle : H k &&& s ≤ s := Nat.and_le_right
        refine ⟨z', M', by omega, ?_, ?_, g3⟩
        · rw [gEq_f (by omega) (by omega) (by omega) (by omega) (by omega), cond_false]
          exact g1
        · rw [g2, h1, cond_false, Nat.zero_add]
theorem l_c18 (C : gCl) (n : Nat) (H : Nat → Nat) (M0 : gM) (hn : n ≤ 7) (h58 : M0 58 0 = (n : Int)) (hH : hOk n H) (h60 : ∀ x, x < n → M0 60 x = ((H x : Nat) : Int)) : ∀ (r k z : Nat) (M : gM), k + r = 2 ^ n → 1 ≤ k → 40 * r < z → (∀ q i, q ≠ 62 → M q i = M0 q i) → (∀ t, t < k → M 62 t = ((unN H t : Nat) : Int)) → ∃ M', L_X3_countUnbroken_18 C z ((2 ^ n - 1 : Nat) : Int) (k : Int) M = some (M', some (.inl ((unN H (2 ^ n - 1) : Nat) : Int))) ∧ ∀ q i, q ≠ 62 → M' q i = M0 q i := by
  have hp := pow_lt n hn
  have hpos : 1 ≤ 2 ^ n := Nat.one_le_two_pow
  intro r
  induction r with
  | zero =>
    intro k z M hk h1 hz hf h62
    obtain ⟨z, rfl⟩ : ∃ y, z = y + 1 := ⟨z - 1, by omega⟩
    refine ⟨M, ?_, hf⟩
    rw [q_X3_countUnbroken_18, gLt_t (by omega) (by omega) (by omega), cond_true, gIx_e (x := ((2 ^ n - 1 : Nat) : Int)) (n := 2 ^ n - 1) rfl (by omega), h62 _ (by omega), gInb_t (by omega) (by omega) (by omega), gIf_t]
  | succ r ih =>
    intro k z M hk h1 hz hf h62
    obtain ⟨z, rfl⟩ : ∃ y, z = y + 1 := ⟨z - 1, by omega⟩
    have ik := gIx_e (x := (k : Int)) (n := k) rfl (by omega)
    obtain ⟨z', M', g0, g1, g2, g3⟩ := l_c32 C n k ((2 ^ n - 1 : Nat) : Int) H M hn (by omega) ((hf _ _ (by omega)).trans h58) hH (fun x hx => (hf _ _ (by omega)).trans (h60 x hx)) h62 n 0 z 0 (gU M 62 k 0) (by omega) (by omega) (fun q i hq => gU_off _ _ hq) (gU_same _ _ _ _)
    rw [← els_n n hn k (by omega), Nat.zero_add, ← un_step H k (by omega) (by omega)] at g2
    obtain ⟨M2, f1, f2⟩ := ih (k + 1) z' M' (by omega) (by omega) (by omega) (fun q i hq => (g3 q i (by omega)).trans (hf q i hq)) (fun t ht => by
      by_cases htk : t = k
      · subst htk; exact g2
      · rw [g3 _ _ (by omega)]; exact h62 t (by omega))
    refine ⟨M2, ?_, f2⟩
    rw [q_X3_countUnbroken_18, gLt_f (by omega) (by omega) (by omega), cond_false, ik, gInb_t (by omega) (by omega) (by omega), gIf_t]
    exact g1.trans f1
theorem s_count (N d n : Nat) (H : Nat → Nat) (M : gM) (hN : 10000 ≤ N) (hn : n ≤ 7) (h58 : M 58 0 = (n : Int)) (hH : hOk n H) (h60 : ∀ x, x < n → M 60 x = ((H x : Nat) : Int)) : ∃ M', gEv N (d + 1) 19 [.inr (.inr 59)] M = some (M', some (.inl ((unN H (2 ^ n - 1) : Nat) : Int))) ∧ ∀ q i, q ≠ 62 → M' q i = M q i := by
  have hp := pow_lt n hn
  have hpos : 1 ≤ 2 ^ n := Nat.one_le_two_pow
  have e := q_X3_countUnbroken N d M
  rw [h58, m_all n hn, gIx_e (x := 0) (n := 0) rfl (by omega), gInb_t (by omega) (by omega) (by omega), gIf_t] at e
  obtain ⟨M', g1, g2⟩ := l_c18 (gEv N d) n H (gU M 62 0 1) hn ((gU_off _ _ (by omega)).trans h58) hH (fun x hx => (gU_off _ _ (by omega)).trans (h60 x hx)) (2 ^ n - 1) 1 N (gU M 62 0 1) (by omega) (by omega) (by omega) (fun _ _ _ => rfl) (fun t ht => by
    have : t = 0 := by omega
    subst this
    rw [gU_same, un_zero]
    rfl)
  exact ⟨M', e.trans g1, fun q i hq => (g2 q i hq).trans (gU_off _ _ (by omega))⟩
theorem hm_ok (A B : Nat → Nat) (n c : Nat) (hn : n ≤ 7) (hA : ∀ k, k < c → A k < n ∧ B k < n ∧ A k ≠ B k) : hOk n (hm A B c) := fun x hx => by
  have h7 : ∀ k, k < c → A k < 7 ∧ B k < 7 := fun k hk => by
    obtain ⟨a1, a2, _⟩ := hA k hk
    exact ⟨by omega, by omega⟩
  refine ⟨hm_lt A B c h7 x, ?_⟩
  cases hb : (hm A B c x).testBit x with
  | false => rfl
  | true =>
    obtain ⟨k, k1, k2, k3⟩ := (hm_bit A B c h7 x x (by omega)).mp hb
    exact absurd (k3.trans k2.symm) (hA k k1).2.2
theorem up_ok {n a b : Nat} {H : Nat → Nat} (hn : n ≤ 7) (h : hOk n H) (ha : a < n) (hab : a ≠ b) : hOk n (upH H b (ob (H b) a)) := fun x hx => by
  unfold upH
  by_cases hxb : x = b
  · subst hxb
    rw [if_pos rfl]
    obtain ⟨h1, h2⟩ := h x hx
    refine ⟨ob_lt _ h1 a (by omega), ?_⟩
    rw [ob_bit _ h1 a (by omega) x (by omega), h2]
    simp
    exact fun q => hab q.symm
  · rw [if_neg hxb]
    exact h x hx
theorem s_cwith (N d n a b : Nat) (H : Nat → Nat) (M : gM) (hN : 10000 ≤ N) (hn : n ≤ 7) (h58 : M 58 0 = (n : Int)) (hH : hOk n H) (h60 : ∀ x, x < n → M 60 x = ((H x : Nat) : Int)) (ha : a < n) (hb : b < n) (hab : a ≠ b) : ∃ M', gEv N (d + 2) 21 [.inr (.inr 59), .inl (a : Int), .inl (b : Int)] M = some (M', some (.inl ((unN (upH H b (ob (H b) a)) (2 ^ n - 1) : Nat) : Int))) ∧ ∀ q i, q ≠ 62 → M' q i = M q i := by
  obtain ⟨M1, g1, g2⟩ := s_count N d n (upH H b (ob (H b) a)) (gU M 60 b ((ob (H b) a : Nat) : Int)) hN hn ((gU_off _ _ (by omega)).trans h58) (up_ok hn hH ha hab) (fun x hx => by
    unfold upH
    by_cases hxb : x = b
    · subst hxb; rw [gU_same, if_pos rfl]
    · rw [gU_off _ _ (by omega), if_neg hxb]; exact h60 x hx)
  refine ⟨gU M1 60 b (M 60 b), ?_, fun q i hq => ?_⟩
  · rw [q_X3_countUnbrokenWith, gIx_e (x := (b : Int)) (n := b) rfl (by omega), h60 b hb, m_ob _ (hH b hb).1 a (by omega), g1, gCi_some, gInb_t (by omega) (by omega) (by omega), gIf_t, gIf_t, gIf_t]
  · by_cases h : q = 60 ∧ i = b
    · obtain ⟨rfl, rfl⟩ := h
      rw [gU_same]
    · rw [gU_off _ _ h, g2 q i hq, gU_off _ _ h]
/-- which pair to ask of: the search through the pairs -/
def ptN (t y : Nat) : Nat := max y (t - y)
def inN (y : Nat → Nat → Nat) (t a b : Nat) (p : Int × Nat) : Nat → Int × Nat
  | 0 => p
  | r + 1 => inN y t a (b + 1) (if ptN t (y a b) < p.2 then (((10 * a + b : Nat) : Int), ptN t (y a b)) else p) r
def ouN (y : Nat → Nat → Nat) (t n a : Nat) (p : Int × Nat) : Nat → Int × Nat
  | 0 => p
  | r + 1 => ouN y t n (a + 1) (inN y t a (a + 1) p (n - (a + 1))) r
theorem l_xin (N d n t : Nat) (H : Nat → Nat) (y : Nat → Nat → Nat) (M0 : gM) (hN : 10000 ≤ N) (hn : n ≤ 7) (h58 : M0 58 0 = (n : Int)) (hH : hOk n H) (h60 : ∀ x, x < n → M0 60 x = ((H x : Nat) : Int)) (hy : ∀ a b, a < n → b < n → a ≠ b → y a b = unN (upH H b (ob (H b) a)) (2 ^ n - 1) ∧ y a b ≤ t) (ht : t ≤ 5040) (a : Nat) (ha : a < n) : ∀ (r b z : Nat) (p : Int × Nat) (M : gM), b + r = n → a < b → r < z → p.2 ≤ 5040 → (∀ q i, q ≠ 62 → M q i = M0 q i) → ∃ z' M', z ≤ z' + r + 1 ∧ (inN y t a b p r).2 ≤ 5040 ∧ L_X3_bestQuestion_27 (gEv N (d + 2)) z (t : Int) p.1 (p.2 : Int) (a : Int) (b : Int) M = L_X3_bestQuestion_12 (gEv N (d + 2)) z' (t : Int) (inN y t a b p r).1 ((inN y t a b p r).2 : Int) ((a + 1 : Nat) : Int) M' ∧ ∀ q i, q ≠ 62 → M' q i = M0 q i := by
  intro r
  induction r with
  | zero =>
    intro b z p M hb hab hz hp hf
    obtain ⟨z, rfl⟩ : ∃ y, z = y + 1 := ⟨z - 1, by omega⟩
    refine ⟨z, M, by omega, hp, ?_, hf⟩
    rw [q_X3_bestQuestion_27, hf 58 0 (by omega), h58, gLt_f (by omega) (by omega) (by omega), cond_false, cast_1 a]
    rfl
  | succ r ih =>
    intro b z p M hb hab hz hp hf
    obtain ⟨z, rfl⟩ : ∃ y, z = y + 1 := ⟨z - 1, by omega⟩
    obtain ⟨y1, y2⟩ := hy a b ha (by omega) (by omega)
    obtain ⟨M1, g1, g2⟩ := s_cwith N d n a b H M hN hn ((hf _ _ (by omega)).trans h58) hH (fun x hx => (hf _ _ (by omega)).trans (h60 x hx)) ha (by omega) (by omega)
    rw [← y1] at g1
    have hmax : gMax ((y a b : Nat) : Int) ((t : Int) - ((y a b : Nat) : Int)) = ((ptN t (y a b) : Nat) : Int) := by
      rw [gMax_id (by omega) (by omega) (by omega) (by omega)]
      unfold ptN
      split <;> omega
    have hpt : ptN t (y a b) ≤ 5040 := by unfold ptN; omega
    have hf1 : ∀ q i, q ≠ 62 → M1 q i = M0 q i := fun q i hq => (g2 q i hq).trans (hf q i hq)
    simp only [inN]
    by_cases h : ptN t (y a b) < p.2
    · rw [if_pos h]
      obtain ⟨z', M', k0, k1, k2, k3⟩ := ih (b + 1) z (((10 * a + b : Nat) : Int), ptN t (y a b)) M1 (by omega) (by omega) (by omega) hpt hf1
      refine ⟨z', M', by omega, k1, ?_, k3⟩
      rw [q_X3_bestQuestion_27, hf 58 0 (by omega), h58, g1, gCi_some, hmax, gLt_t (x := (b : Int)) (by omega) (by omega) (by omega), cond_true, gLt_t (by omega) (by omega) (by omega), cond_true, cast_1 b, show 10 * (a : Int) + (b : Int) = ((10 * a + b : Nat) : Int) by omega]
      exact k2
    · rw [if_neg h]
      obtain ⟨z', M', k0, k1, k2, k3⟩ := ih (b + 1) z p M1 (by omega) (by omega) (by omega) hp hf1
      refine ⟨z', M', by omega, k1, ?_, k3⟩
      rw [q_X3_bestQuestion_27, hf 58 0 (by omega), h58, g1, gCi_some, hmax, gLt_t (x := (b : Int)) (by omega) (by omega) (by omega), cond_true, gLt_f (by omega) (by omega) (by omega), cond_false, cast_1 b]
      exact k2
theorem l_xou (N d n t : Nat) (H : Nat → Nat) (y : Nat → Nat → Nat) (M0 : gM) (hN : 10000 ≤ N) (hn : n ≤ 7) (h58 : M0 58 0 = (n : Int)) (hH : hOk n H) (h60 : ∀ x, x < n → M0 60 x = ((H x : Nat) : Int)) (hy : ∀ a b, a < n → b < n → a ≠ b → y a b = unN (upH H b (ob (H b) a)) (2 ^ n - 1) ∧ y a b ≤ t) (ht : t ≤ 5040) : ∀ (r a z : Nat) (p : Int × Nat) (M : gM), a + r = n → 20 * r < z → p.2 ≤ 5040 → (∀ q i, q ≠ 62 → M q i = M0 q i) → ∃ M', L_X3_bestQuestion_12 (gEv N (d + 2)) z (t : Int) p.1 (p.2 : Int) (a : Int) M = some (M', some (.inl (ouN y t n a p r).1)) ∧ ∀ q i, q ≠ 62 → M' q i = M0 q i := by
  intro r
  induction r with
  | zero =>
    intro a z p M ha hz hp hf
    obtain ⟨z, rfl⟩ : ∃ y, z = y + 1 := ⟨z - 1, by omega⟩
    refine ⟨M, ?_, hf⟩
    rw [q_X3_bestQuestion_12, hf 58 0 (by omega), h58, gLt_f (by omega) (by omega) (by omega), cond_false]
    rfl
  | succ r ih =>
    intro a z p M ha hz hp hf
    obtain ⟨z, rfl⟩ : ∃ y, z = y + 1 := ⟨z - 1, by omega⟩
    obtain ⟨z', M', k0, k1, k2, k3⟩ := l_xin N d n t H y M0 hN hn h58 hH h60 hy ht a (by omega) (n - (a + 1)) (a + 1) z p M (by omega) (by omega) (by omega) hp hf
    obtain ⟨M2, f1, f2⟩ := ih (a + 1) z' (inN y t a (a + 1) p (n - (a + 1))) M' (by omega) (by omega) k1 k3
    refine ⟨M2, ?_, f2⟩
    rw [q_X3_bestQuestion_12, hf 58 0 (by omega), h58, gLt_t (by omega) (by omega) (by omega), cond_true, cast_1 a, k2]
    exact f1
theorem l_m29 (C : gCl) (n t : Nat) (y : Nat → Nat → Nat) (M : gM) (hn : n ≤ 7) (h29 : M 82 29 = (n : Int)) (h30 : M 81 30 = (t : Int)) (hM : ∀ a b, a < n → b < n → a ≠ b → M 102 (7 * a + b) = ((y a b : Nat) : Int) ∧ y a b ≤ t) (ht : t ≤ 5040) (a : Nat) (ha : a < n) : ∀ (r b z : Nat) (p : Int × Nat), b + r = n → a < b → 2 * r < z → p.2 ≤ 5040 → ∃ z', z ≤ z' + 2 * r + 1 ∧ (inN y t a b p r).2 ≤ 5040 ∧ L_X10_next_29 C z p.1 (p.2 : Int) (a : Int) (b : Int) M = L_X10_next_13 C z' (inN y t a b p r).1 ((inN y t a b p r).2 : Int) ((a + 1 : Nat) : Int) M := by
  have i29 := gIx_e (x := 29) (n := 29) rfl (by omega)
  intro r
  induction r with
  | zero =>
    intro b z p hb hab hz hp
    obtain ⟨z, rfl⟩ : ∃ y, z = y + 1 := ⟨z - 1, by omega⟩
    refine ⟨z, by omega, hp, ?_⟩
    rw [q_X10_next_29, i29, h29, gLt_f (by omega) (by omega) (by omega), cond_false, cast_1 a, gInb_t (by omega) (by omega) (by omega), gIf_t]
    rfl
  | succ r ih =>
    intro b z p hb hab hz hp
    obtain ⟨z, rfl⟩ : ∃ y, z = y + 1 := ⟨z - 1, by omega⟩
    obtain ⟨z, rfl⟩ : ∃ y, z = y + 1 := ⟨z - 1, by omega⟩
    obtain ⟨y1, y2⟩ := hM a b ha (by omega) (by omega)
    have hpt : ptN t (y a b) ≤ 5040 := by unfold ptN; omega
    have e79 : ∀ x5, L_X10_next_79 C (z + 1) p.1 (p.2 : Int) (a : Int) (b : Int) x5 ((ptN t (y a b) : Nat) : Int) M = cond (decide (ptN t (y a b) < p.2)) (L_X10_next_29 C z ((10 * a + b : Nat) : Int) ((ptN t (y a b) : Nat) : Int) (a : Int) ((b + 1 : Nat) : Int) M) (L_X10_next_29 C z p.1 (p.2 : Int) (a : Int) ((b + 1 : Nat) : Int) M) := fun x5 => by
      rw [q_X10_next_79, cast_1 b, show 10 * (a : Int) + (b : Int) = ((10 * a + b : Nat) : Int) by omega]
      by_cases h : ptN t (y a b) < p.2
      · rw [decide_eq_true h, gLt_t (by omega) (by omega) (by omega), cond_true, cond_true, cond_true]
      · rw [decide_eq_false h, gLt_f (by omega) (by omega) (by omega), cond_false, cond_false, cond_false]
    have e29 : L_X10_next_29 C (z + 1 + 1) p.1 (p.2 : Int) (a : Int) (b : Int) M = cond (decide (ptN t (y a b) < p.2)) (L_X10_next_29 C z ((10 * a + b : Nat) : Int) ((ptN t (y a b) : Nat) : Int) (a : Int) ((b + 1 : Nat) : Int) M) (L_X10_next_29 C z p.1 (p.2 : Int) (a : Int) ((b + 1 : Nat) : Int) M) := by
      rw [q_X10_next_29, i29, h29, h30, gIx_e (x := 7 * (a : Int) + (b : Int)) (n := 7 * a + b) (by omega) (by omega), y1, gLt_t (x := (b : Int)) (by omega) (by omega) (by omega), cond_true, gInb_t (x := (29 : Int)) (by omega) (by omega) (by omega), gIf_t, gInb_t (by omega) (by omega) (by omega), gIf_t]
      by_cases h : (t : Int) - ((y a b : Nat) : Int) < ((y a b : Nat) : Int)
      · have hm : ((y a b : Nat) : Int) = ((ptN t (y a b) : Nat) : Int) := by unfold ptN; omega
        rw [gLt_t h (by omega) (by omega), cond_true, ← e79 ((y a b : Nat) : Int), ← hm]
      · have hm : (t : Int) - ((y a b : Nat) : Int) = ((ptN t (y a b) : Nat) : Int) := by unfold ptN; omega
        rw [gLt_f (by omega) (by omega) (by omega), cond_false, hm, e79]
    simp only [inN]
    by_cases h : ptN t (y a b) < p.2
    · rw [if_pos h]
      obtain ⟨z', k0, k1, k2⟩ := ih (b + 1) z (((10 * a + b : Nat) : Int), ptN t (y a b)) (by omega) (by omega) (by omega) hpt
      refine ⟨z', by omega, k1, ?_⟩
      rw [e29, decide_eq_true h, cond_true]
      exact k2
    · rw [if_neg h]
      obtain ⟨z', k0, k1, k2⟩ := ih (b + 1) z p (by omega) (by omega) (by omega) hp
      refine ⟨z', by omega, k1, ?_⟩
      rw [e29, decide_eq_false h, cond_false]
      exact k2
theorem l_m13 (C : gCl) (n t : Nat) (y : Nat → Nat → Nat) (M : gM) (hn : n ≤ 7) (h29 : M 82 29 = (n : Int)) (h30 : M 81 30 = (t : Int)) (hM : ∀ a b, a < n → b < n → a ≠ b → M 102 (7 * a + b) = ((y a b : Nat) : Int) ∧ y a b ≤ t) (ht : t ≤ 5040) : ∀ (r a z : Nat) (p : Int × Nat), a + r = n → 30 * r < z → p.2 ≤ 5040 → L_X10_next_13 C z p.1 (p.2 : Int) (a : Int) M = some (M, some (.inl (ouN y t n a p r).1)) := by
  have i29 := gIx_e (x := 29) (n := 29) rfl (by omega)
  intro r
  induction r with
  | zero =>
    intro a z p ha hz hp
    obtain ⟨z, rfl⟩ : ∃ y, z = y + 1 := ⟨z - 1, by omega⟩
    rw [q_X10_next_13, i29, h29, gLt_f (by omega) (by omega) (by omega), cond_false, gInb_t (by omega) (by omega) (by omega), gIf_t]
    rfl
  | succ r ih =>
    intro a z p ha hz hp
    obtain ⟨z, rfl⟩ : ∃ y, z = y + 1 := ⟨z - 1, by omega⟩
    obtain ⟨z', k0, k1, k2⟩ := l_m29 C n t y M hn h29 h30 hM ht a (by omega) (n - (a + 1)) (a + 1) z p (by omega) (by omega) (by omega) hp
    rw [q_X10_next_13, i29, h29, gLt_t (by omega) (by omega) (by omega), cond_true, cast_1 a, k2, ih (a + 1) z' _ (by omega) (by omega) k1, gInb_t (by omega) (by omega) (by omega), gIf_t]
    rfl
theorem cnL_and {α : Type} (f g h : α → Bool) : ∀ (L : List α), (∀ l, l ∈ L → h l = (f l && g l)) → cnL h L ≤ cnL f L
  | [], _ => Nat.le_refl 0
  | l :: L, H => by
    have := cnL_and f g h L (fun y hy => H y (by simp [hy]))
    simp only [cnL]
    rw [H l (by simp)]
    cases f l <;> cases g l <;> simp <;> omega
theorem un_up (n a b : Nat) (H : Nat → Nat) (hn : n ≤ 7) (hH : ∀ x, H x < 128) (ha : a < n) (hb : b < n) (hab : a ≠ b) : unN (upH H b (ob (H b) a)) (2 ^ n - 1) ≤ unN H (2 ^ n - 1) := by
  unfold unN
  rw [els_all n hn]
  exact cnL_and _ (fun l => decide (posL l a < posL l b)) _ _ (fun l hl => gd_one H a b (by omega) (by omega) hab hH n (2 ^ n - 1) (all_lt n hn) (els_all n hn) (by rw [all_bit n hn a (by omega)]; exact decide_eq_true ha) (by rw [all_bit n hn b (by omega)]; exact decide_eq_true hb) l hl)
theorem p_lines (N d : Nat) (M : gM) (hN : 1000000 ≤ N) (hI : kInv M) : kPair N (d + 20) 73 151 [] M := by
  obtain ⟨n, K, t, F, G, c, A, B, c', A', B', l, s, h⟩ := id hI
  obtain ⟨hP, hW, hT, hQ, hQ', hX, hU, hKp, hS, hD, hw, hz⟩ := id h
  have hn := hP.1
  have h6 := hP.2.1
  have m29 := hP.2.2.1
  have hKx := iPpl_kx hP
  have hKm := iPpl_km hP
  obtain ⟨hOk, hG8, hH0⟩ := id hW
  obtain ⟨q1, q2, q3, q4⟩ := id hQ
  have c1 := q_X9_lines N (d + 19) M
  rw [h6] at c1
  obtain ⟨M1, a1, a2, a3⟩ := s_learn N (d + 18) n c A B M (by omega) hn q1 q2 (fun k hk => by
    obtain ⟨x1, x2, x3, x4, x5, x6, x7⟩ := q4 k hk
    exact ⟨by omega, by omega, x4, x5⟩)
  have hok := hm_ok A B n c hn (fun k hk => ⟨(q4 k hk).1, (q4 k hk).2.1, (q4 k hk).2.2.1⟩)
  obtain ⟨M2, b1, b2⟩ := s_count N (d + 18) n (hm A B c) M1 (by omega) hn a2.1 hok (fun x hx => a2.2.2 x (by omega))
  have fr : ∀ q i, ¬ (58 ≤ q ∧ q ≤ 63) → M2 q i = M q i := fun q i hq => (b2 q i (by omega)).trans (a3 q i (by omega))
  rw [a1, gCv_some, b1, gCi_some] at c1
  obtain ⟨M3, f1, f2, f3, f4⟩ := s_mcount N (d + 16) n c A B M2 (by omega) hn q1 ((fr _ _ (by omega)).trans m29) ((fr _ _ (by omega)).trans q3) (fun k hk => by
    obtain ⟨x1, x2, x3, x4, x5, x6, x7⟩ := q4 k hk
    rw [Nat.zero_add] at x6 x7
    exact ⟨x1, x2, x3, (fr _ _ (by omega)).trans x6, (fr _ _ (by omega)).trans x7⟩)
  have c2 := q_X10_lines N (d + 19) M2
  rw [f1, gCv_some, f2] at c2
  exact kPair_sc _ hI c1 c2 (fun q i hq => fr q i (by unfold kScr at hq; omega)) (fun q i hq => f4 q i (by unfold kScr at hq; omega))
theorem p_next (N d : Nat) (M : gM) (hN : 1000000 ≤ N) (hI : kInv M) : kPair N (d + 20) 74 152 [] M := by
  obtain ⟨n, K, t, F, G, c, A, B, c', A', B', l, s, h⟩ := id hI
  obtain ⟨hP, hW, hT, hQ, hQ', hX, hU, hKp, hS, hD, hw, hz⟩ := id h
  have hn := hP.1
  have h6 := hP.2.1
  have m29 := hP.2.2.1
  have hKx := iPpl_kx hP
  have hKm := iPpl_km hP
  obtain ⟨hOk, hG8, hH0⟩ := id hW
  obtain ⟨q1, q2, q3, q4⟩ := id hQ
  have hp := all_lt n hn
  have c1 := q_X9_next N (d + 19) M
  rw [h6] at c1
  obtain ⟨M1, a1, a2, a3⟩ := s_learn N (d + 18) n c A B M (by omega) hn q1 q2 (fun k hk => by
    obtain ⟨x1, x2, x3, x4, x5, x6, x7⟩ := q4 k hk
    exact ⟨by omega, by omega, x4, x5⟩)
  have hok := hm_ok A B n c hn (fun k hk => ⟨(q4 k hk).1, (q4 k hk).2.1, (q4 k hk).2.2.1⟩)
  have hlt := hm_lt A B c (fun k hk => by
    obtain ⟨x1, x2, x3, x4, x5, x6, x7⟩ := q4 k hk
    exact ⟨by omega, by omega⟩)
  have hT := un_le (hm A B c) (2 ^ n - 1) hp
  obtain ⟨M2, b1, b2⟩ := s_count N (d + 17) n (hm A B c) M1 (by omega) hn a2.1 hok (fun x hx => a2.2.2 x (by omega))
  have hy : ∀ a b, a < n → b < n → a ≠ b → (fun a b => unN (upH (hm A B c) b (ob (hm A B c b) a)) (2 ^ n - 1)) a b = unN (upH (hm A B c) b (ob (hm A B c b) a)) (2 ^ n - 1) ∧ (fun a b => unN (upH (hm A B c) b (ob (hm A B c b) a)) (2 ^ n - 1)) a b ≤ unN (hm A B c) (2 ^ n - 1) := fun a b ha hb hab => ⟨rfl, un_up n a b _ hn hlt ha hb hab⟩
  obtain ⟨M3, e1, e2⟩ := l_xou N (d + 16) n (unN (hm A B c) (2 ^ n - 1)) (hm A B c) (fun a b => unN (upH (hm A B c) b (ob (hm A B c b) a)) (2 ^ n - 1)) M2 (by omega) hn ((b2 _ _ (by omega)).trans a2.1) hok (fun x hx => (b2 _ _ (by omega)).trans (a2.2.2 x (by omega))) hy hT n 0 N ((-1 : Int), unN (hm A B c) (2 ^ n - 1)) M2 (by omega) (by omega) hT (fun _ _ _ => rfl)
  have e3 : gEv N (d + 19) 20 [.inr (.inr 59)] M1 = _ := q_X3_bestQuestion N (d + 18) M1
  rw [b1, gCi_some] at e3
  have e4 := e3.trans e1
  rw [a1, gCv_some, e4, gCi_some] at c1
  have fr : ∀ q i, ¬ (58 ≤ q ∧ q ≤ 63) → M3 q i = M q i := fun q i hq => (e2 q i (by omega)).trans ((b2 q i (by omega)).trans (a3 q i (by omega)))
  obtain ⟨M4, f1, f2, f3, f4⟩ := s_mcount N (d + 16) n c A B M3 (by omega) hn q1 ((fr _ _ (by omega)).trans m29) ((fr _ _ (by omega)).trans q3) (fun k hk => by
    obtain ⟨x1, x2, x3, x4, x5, x6, x7⟩ := q4 k hk
    rw [Nat.zero_add] at x6 x7
    exact ⟨x1, x2, x3, (fr _ _ (by omega)).trans x6, (fr _ _ (by omega)).trans x7⟩)
  have g1 := l_m13 (gEv N (d + 19)) n (unN (hm A B c) (2 ^ n - 1)) (fun a b => unN (upH (hm A B c) b (ob (hm A B c b) a)) (2 ^ n - 1)) M4 hn ((f4 _ _ (by omega)).trans ((fr _ _ (by omega)).trans m29)) f2 (fun a b ha hb hab => ⟨f3 a b ha hb hab, (hy a b ha hb hab).2⟩) hT n 0 N ((-1 : Int), unN (hm A B c) (2 ^ n - 1)) (by omega) (by omega) hT
  have c2 := q_X10_next N (d + 19) M3
  rw [f1, gCv_some, f2] at c2
  exact kPair_sc _ hI c1 (c2.trans g1) (fun q i hq => fr q i (by unfold kScr at hq; omega)) (fun q i hq => f4 q i (by unfold kScr at hq; omega))
