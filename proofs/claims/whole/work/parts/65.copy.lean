-- 65: copy
theorem s_places (N d e : Nat) (i k z : Int) (M : gM) (he : e < 4) (hi : rng i) (hk : rng k) (h1 : M (69 + 3 * e) 1 = z) (hz : 0 ≤ z ∧ z ≤ 10) : gEv N (d + 1) 2 [.inr (.inr (70 + 3 * e)), .inl i, .inl k] M = some (M, some (.inl (bI (decide (0 ≤ i ∧ 0 ≤ k ∧ i + k ≤ z))))) := by
  obtain ⟨i1, i2⟩ := hi
  obtain ⟨k1, k2⟩ := hk
  have q := q_X0_hasPlaces N d (69 + 3 * e) i k M (dPl he)
  rw [show 70 + 3 * e = 69 + 3 * e + 1 by omega, q, h1]
  by_cases c1 : i < 0
  · rw [decide_eq_false (by omega)]; simp (disch := omega) only [gInb_t, gLt_t, gLt_f, gEq_t, gEq_f, gIx_nat, gIx_id, gIf, cond_true, cond_false, gCi_some, gCv_some, gCr_some, gB01_0, gB01_1, gBi_01, gU_same, gU_off, gW_id, Int.toNat_natCast, Int.toNat_add, Int.toNat_mul, Int.reduceToNat, Nat.add_zero, Int.add_zero, bI_eq0, bI_B, Bool.not_true, Bool.not_false, bI_t, bI_f]
  · by_cases c2 : k < 0
    · rw [decide_eq_false (by omega)]; simp (disch := omega) only [gInb_t, gLt_t, gLt_f, gEq_t, gEq_f, gIx_nat, gIx_id, gIf, cond_true, cond_false, gCi_some, gCv_some, gCr_some, gB01_0, gB01_1, gBi_01, gU_same, gU_off, gW_id, Int.toNat_natCast, Int.toNat_add, Int.toNat_mul, Int.reduceToNat, Nat.add_zero, Int.add_zero, bI_eq0, bI_B, Bool.not_true, Bool.not_false, bI_t, bI_f]
    · by_cases c3 : i + k ≤ z
      · rw [decide_eq_true (by omega)]; simp (disch := omega) only [gInb_t, gLt_t, gLt_f, gEq_t, gEq_f, gIx_nat, gIx_id, gIf, cond_true, cond_false, gCi_some, gCv_some, gCr_some, gB01_0, gB01_1, gBi_01, gU_same, gU_off, gW_id, Int.toNat_natCast, Int.toNat_add, Int.toNat_mul, Int.reduceToNat, Nat.add_zero, Int.add_zero, bI_eq0, bI_B, Bool.not_true, Bool.not_false, bI_t, bI_f]
      · rw [decide_eq_false (by omega)]; simp (disch := omega) only [gInb_t, gLt_t, gLt_f, gEq_t, gEq_f, gIx_nat, gIx_id, gIf, cond_true, cond_false, gCi_some, gCv_some, gCr_some, gB01_0, gB01_1, gBi_01, gU_same, gU_off, gW_id, Int.toNat_natCast, Int.toNat_add, Int.toNat_mul, Int.reduceToNat, Nat.add_zero, Int.add_zero, bI_eq0, bI_B, Bool.not_true, Bool.not_false, bI_t, bI_f]
theorem s_span (N d e : Nat) (i k z : Int) (M : gM) (he : e < 4) (hi : rng i) (hk : rng k) (h1 : M 88 e = z) (hz : 0 ≤ z ∧ z ≤ 10) : gEv N (d + 1) 167 [.inr (.inr 82), .inl (e : Int), .inl i, .inl k] M = some (M, some (.inl (bI (decide (0 ≤ i ∧ 0 ≤ k ∧ i + k ≤ z))))) := by
  obtain ⟨i1, i2⟩ := hi
  obtain ⟨k1, k2⟩ := hk
  rw [q_X10_isSpan, gIx_e (x := (e : Int)) (n := e) rfl (by omega), h1, gW_id i1 i2, gW_id k1 k2, gW_id (x := z) (by omega) (by omega)]
  by_cases c1 : i < 0
  · rw [decide_eq_false (by omega)]; simp (disch := omega) only [gInb_t, gLt_t, gLt_f, gEq_t, gEq_f, gIx_nat, gIx_id, gIf, cond_true, cond_false, gCi_some, gCv_some, gCr_some, gB01_0, gB01_1, gBi_01, gU_same, gU_off, gW_id, Int.toNat_natCast, Int.toNat_add, Int.toNat_mul, Int.reduceToNat, Nat.add_zero, Int.add_zero, bI_eq0, bI_B, Bool.not_true, Bool.not_false, bI_t, bI_f]
  · by_cases c2 : k < 0
    · rw [decide_eq_false (by omega)]; simp (disch := omega) only [gInb_t, gLt_t, gLt_f, gEq_t, gEq_f, gIx_nat, gIx_id, gIf, cond_true, cond_false, gCi_some, gCv_some, gCr_some, gB01_0, gB01_1, gBi_01, gU_same, gU_off, gW_id, Int.toNat_natCast, Int.toNat_add, Int.toNat_mul, Int.reduceToNat, Nat.add_zero, Int.add_zero, bI_eq0, bI_B, Bool.not_true, Bool.not_false, bI_t, bI_f]
    · rw [gLc_gt (by omega) (by omega) (by omega) (by omega)]
      by_cases c3 : i + k ≤ z
      · rw [decide_eq_true (show 0 ≤ i ∧ 0 ≤ k ∧ i + k ≤ z by omega), decide_eq_false (by omega)]; simp (disch := omega) only [gInb_t, gLt_t, gLt_f, gEq_t, gEq_f, gIx_nat, gIx_id, gIf, cond_true, cond_false, gCi_some, gCv_some, gCr_some, gB01_0, gB01_1, gBi_01, gU_same, gU_off, gW_id, Int.toNat_natCast, Int.toNat_add, Int.toNat_mul, Int.reduceToNat, Nat.add_zero, Int.add_zero, bI_eq0, bI_B, Bool.not_true, Bool.not_false, bI_t, bI_f]
      · rw [decide_eq_false (show ¬ (0 ≤ i ∧ 0 ≤ k ∧ i + k ≤ z) by omega), decide_eq_true (by omega)]; simp (disch := omega) only [gInb_t, gLt_t, gLt_f, gEq_t, gEq_f, gIx_nat, gIx_id, gIf, cond_true, cond_false, gCi_some, gCv_some, gCr_some, gB01_0, gB01_1, gBi_01, gU_same, gU_off, gW_id, Int.toNat_natCast, Int.toNat_add, Int.toNat_mul, Int.reduceToNat, Nat.add_zero, Int.add_zero, bI_eq0, bI_B, Bool.not_true, Bool.not_false, bI_t, bI_f]
theorem l_cp67 (C : gCl) (e i m : Nat) (x3 x4 : Int) (M0 : gM) (he : e < 4) (hi : i + m ≤ 10) : ∀ (r k z : Nat) (M : gM), k + r = m → r < z → (∀ q j, ¬ (q = 105 ∨ q = 106) → M q j = M0 q j) → (∀ j, j < k → M 105 j = M0 89 (10 * e + i + j) ∧ M 106 j = M0 90 (10 * e + i + j)) → ∃ z' M', z ≤ z' + r + 1 ∧ L_X10_copy_67 C z (e : Int) (i : Int) x3 x4 (m : Int) (k : Int) M = L_X10_copy_125 C z' (e : Int) (i : Int) x3 x4 (m : Int) 0 M' ∧ (∀ q j, ¬ (q = 105 ∨ q = 106) → M' q j = M0 q j) ∧ (∀ j, j < m → M' 105 j = M0 89 (10 * e + i + j) ∧ M' 106 j = M0 90 (10 * e + i + j)) := by
  intro r
  induction r with
  | zero =>
    intro k z M hk hz hf hM
    obtain ⟨z, rfl⟩ : ∃ y, z = y + 1 := ⟨z - 1, by omega⟩
    refine ⟨z, M, by omega, ?_, hf, fun j hj => hM j (by omega)⟩
    rw [q_X10_copy_67]
    simp (disch := omega) only [gInb_t, gLt_t, gLt_f, gEq_t, gEq_f, gIx_nat, gIx_id, gIf, cond_true, cond_false, gCi_some, gCv_some, gCr_some, gB01_0, gB01_1, gBi_01, gU_same, gU_off, gW_id, Int.toNat_natCast, Int.toNat_add, Int.toNat_mul, Int.reduceToNat, Nat.add_zero, Int.add_zero]
  | succ r ih =>
    intro k z M hk hz hf hM
    obtain ⟨z, rfl⟩ : ∃ y, z = y + 1 := ⟨z - 1, by omega⟩
    have s1 : gU M 105 k (M 89 (10 * e + i + k)) 90 (10 * e + i + k) = M 90 (10 * e + i + k) := gU_off _ _ (by omega)
    obtain ⟨z', M', q1, q2, q3, q4⟩ := ih (k + 1) z (gU (gU M 105 k (M 89 (10 * e + i + k))) 106 k (M 90 (10 * e + i + k))) (by omega) (by omega) (fun q j hq => by
      rw [gU_off _ _ (by omega), gU_off _ _ (by omega)]
      exact hf q j hq) (fun j hj => by
      by_cases hjk : j = k
      · subst hjk
        rw [gU_off _ _ (by omega), gU_same, gU_same]
        exact ⟨hf _ _ (by omega), hf _ _ (by omega)⟩
      · rw [gU_off _ _ (by omega), gU_off _ _ (by omega), gU_off _ _ (by omega), gU_off _ _ (by omega)]
        exact hM j (by omega))
    refine ⟨z', M', by omega, ?_, q3, q4⟩
    rw [q_X10_copy_67, gIx_e (x := (k : Int)) (n := k) rfl (by omega), gIx_e (x := (10 * (e : Int) + (i : Int)) + (k : Int)) (n := 10 * e + i + k) (by omega) (by omega), s1, cast_1 k, q2]
    simp (disch := omega) only [gInb_t, gLt_t, gLt_f, gEq_t, gEq_f, gIx_nat, gIx_id, gIf, cond_true, cond_false, gCi_some, gCv_some, gCr_some, gB01_0, gB01_1, gBi_01, gU_same, gU_off, gW_id, Int.toNat_natCast, Int.toNat_add, Int.toNat_mul, Int.reduceToNat, Nat.add_zero, Int.add_zero]
theorem l_cp125 (C : gCl) (f j m : Nat) (x1 x2 : Int) (M0 : gM) (hf4 : f < 4) (hj : j + m ≤ 10) : ∀ (r k z : Nat) (M : gM), k + r = m → r < z → (∀ q x, ¬ ((q = 89 ∨ q = 90) ∧ 10 * f ≤ x ∧ x < 10 * f + 10) → M q x = M0 q x) → (∀ x, x < 10 → M 89 (10 * f + x) = (if j ≤ x ∧ x < j + k then M0 105 (x - j) else M0 89 (10 * f + x)) ∧ M 90 (10 * f + x) = (if j ≤ x ∧ x < j + k then M0 106 (x - j) else M0 90 (10 * f + x))) → ∃ M', L_X10_copy_125 C z x1 x2 (f : Int) (j : Int) (m : Int) (k : Int) M = some (M', some (.inl (m : Int))) ∧ (∀ q x, ¬ ((q = 89 ∨ q = 90) ∧ 10 * f ≤ x ∧ x < 10 * f + 10) → M' q x = M0 q x) ∧ (∀ x, x < 10 → M' 89 (10 * f + x) = (if j ≤ x ∧ x < j + m then M0 105 (x - j) else M0 89 (10 * f + x)) ∧ M' 90 (10 * f + x) = (if j ≤ x ∧ x < j + m then M0 106 (x - j) else M0 90 (10 * f + x))) := by
  intro r
  induction r with
  | zero =>
    intro k z M hk hz hf hM
    obtain ⟨z, rfl⟩ : ∃ y, z = y + 1 := ⟨z - 1, by omega⟩
    have : k = m := by omega
    subst this
    refine ⟨M, ?_, hf, hM⟩
    rw [q_X10_copy_125]
    simp (disch := omega) only [gInb_t, gLt_t, gLt_f, gEq_t, gEq_f, gIx_nat, gIx_id, gIf, cond_true, cond_false, gCi_some, gCv_some, gCr_some, gB01_0, gB01_1, gBi_01, gU_same, gU_off, gW_id, Int.toNat_natCast, Int.toNat_add, Int.toNat_mul, Int.reduceToNat, Nat.add_zero, Int.add_zero]
  | succ r ih =>
    intro k z M hk hz hf hM
    obtain ⟨z, rfl⟩ : ∃ y, z = y + 1 := ⟨z - 1, by omega⟩
    have s1 : gU M 89 (10 * f + j + k) (M 105 k) 106 k = M 106 k := gU_off _ _ (by omega)
    obtain ⟨M', q2, q3, q4⟩ := ih (k + 1) z (gU (gU M 89 (10 * f + j + k) (M 105 k)) 90 (10 * f + j + k) (M 106 k)) (by omega) (by omega) (fun q x hq => by
      rw [gU_off _ _ (by omega), gU_off _ _ (by omega)]
      exact hf q x hq) (fun x hx => by
      by_cases hxk : x = j + k
      · subst hxk
        rw [if_pos (by omega), if_pos (by omega), gU_off _ _ (by omega), show 10 * f + (j + k) = 10 * f + j + k by omega, gU_same, gU_same, show j + k - j = k by omega]
        exact ⟨hf _ _ (by omega), hf _ _ (by omega)⟩
      · have e : (j ≤ x ∧ x < j + (k + 1)) ↔ (j ≤ x ∧ x < j + k) := by omega
        simp only [e]
        rw [gU_off _ _ (by omega), gU_off _ _ (by omega), gU_off _ _ (by omega), gU_off _ _ (by omega)]
        exact hM x hx)
    refine ⟨M', ?_, q3, q4⟩
    rw [q_X10_copy_125, gIx_e (x := (k : Int)) (n := k) rfl (by omega), gIx_e (x := (10 * (f : Int) + (j : Int)) + (k : Int)) (n := 10 * f + j + k) (by omega) (by omega), s1, cast_1 k, q2]
    simp (disch := omega) only [gInb_t, gLt_t, gLt_f, gEq_t, gEq_f, gIx_nat, gIx_id, gIf, cond_true, cond_false, gCi_some, gCv_some, gCr_some, gB01_0, gB01_1, gBi_01, gU_same, gU_off, gW_id, Int.toNat_natCast, Int.toNat_add, Int.toNat_mul, Int.reduceToNat, Nat.add_zero, Int.add_zero]
/-- the class's copy between two drawers -/
noncomputable def cpE (C : gCl) (e f : Nat) (i j k : Int) (M : gM) : Option gR := cond (gEq (M (69 + 3 * e) 0) 0) (some (M, some (.inl (-11)))) (cond (gEq (M (69 + 3 * f) 0) 0) (some (M, some (.inl (-11)))) (gCi (C 2 [.inr (.inr (70 + 3 * e)), .inl i, .inl k] M) (fun M5 r6 => cond (gEq r6 0) (some (M5, some (.inl (-12)))) (gCi (C 2 [.inr (.inr (70 + 3 * f)), .inl j, .inl k] M5) (fun M7 r8 => cond (gEq r8 0) (some (M7, some (.inl (-12)))) (gIf (decide (0 ≤ gW i ∧ 0 ≤ gW j ∧ 0 ≤ gW k ∧ gW i + gW k ≤ ((10 : Nat) : Int) ∧ gW j + gW k ≤ ((10 : Nat) : Int))) (gIf (decide (0 ≤ gW i ∧ 0 ≤ gW j ∧ 0 ≤ gW k ∧ gW i + gW k ≤ ((10 : Nat) : Int) ∧ gW j + gW k ≤ ((10 : Nat) : Int))) (some (gCp (gCp M7 (70 + 3 * e) (gIx i) (70 + 3 * f) (gIx j) (gIx k)) (71 + 3 * e) (gIx i) (71 + 3 * f) (gIx j) (gIx k), some (.inl k))))))))))
theorem p_copy (N d : Nat) (a i b j k : Int) (M : gM) (hN : 100000 ≤ N) (hI : kInv M) (ha : rng a) (hi : rng i) (hb : rng b) (hj : rng j) (hk : rng k) : kPair N (d + 20) 84 168 [.inl a, .inl i, .inl b, .inl j, .inl k] M := by
  obtain ⟨n, K, t, F, G, c, A, B, c', A', B', l, s, h⟩ := id hI
  obtain ⟨hP, hW, hT, hQ, hQ', hX, hU, hKp, hS, hD, hw, hz⟩ := id h
  have hn := hP.1
  have h6 := hP.2.1
  have m29 := hP.2.2.1
  have hKx := iPpl_kx hP
  have hKm := iPpl_km hP
  obtain ⟨hOk, hG8, hH0⟩ := id hW
  have c1 := q_X9_copy N (d + 19) a i b j k M
  rw [s_xdr _ _ _ _ ha, gCi_some, s_xdr _ _ _ _ hb, gCi_some] at c1
  have c2 := q_X10_copy N (d + 19) a i b j k M
  rw [s_mdr _ _ _ _ ha, gCi_some, s_mdr _ _ _ _ hb, gCi_some] at c2
  by_cases h0 : 0 ≤ a ∧ a ≤ 3
  · rw [decide_eq_true h0] at c1 c2
    by_cases h1 : 0 ≤ b ∧ b ≤ 3
    · rw [decide_eq_true h1] at c1 c2
      obtain ⟨e, rfl⟩ : ∃ e : Nat, a = (e : Int) := ⟨a.toNat, by omega⟩
      obtain ⟨f, rfl⟩ : ∃ e : Nat, b = (e : Int) := ⟨b.toNat, by omega⟩
      have he : e < 4 := by omega
      have hf : f < 4 := by omega
      have ie := gIx_e (x := (e : Int)) (n := e) rfl (by omega)
      have if' := gIx_e (x := (f : Int)) (n := f) rfl (by omega)
      rw [ie, if'] at c2
      have c3 : gEv N (d + 20) 84 [.inr (.inr 1), .inl (e : Int), .inl i, .inl (f : Int), .inl j, .inl k] M = cpE (gEv N (d + 19)) e f i j k M := by
        refine c1.trans ?_
        unfold cpE
        rcases (by omega : e = 0 ∨ e = 1 ∨ e = 2 ∨ e = 3) with rfl | rfl | rfl | rfl
        · rcases (by omega : f = 0 ∨ f = 1 ∨ f = 2 ∨ f = 3) with rfl | rfl | rfl | rfl <;> simp (disch := omega) only [gEq_f, gEq_t, cond_false, cond_true, gInb_t, gIf_t, bI_eq0, Bool.not_true]
        · rcases (by omega : f = 0 ∨ f = 1 ∨ f = 2 ∨ f = 3) with rfl | rfl | rfl | rfl <;> simp (disch := omega) only [gEq_f, gEq_t, cond_false, cond_true, gInb_t, gIf_t, bI_eq0, Bool.not_true]
        · rcases (by omega : f = 0 ∨ f = 1 ∨ f = 2 ∨ f = 3) with rfl | rfl | rfl | rfl <;> simp (disch := omega) only [gEq_f, gEq_t, cond_false, cond_true, gInb_t, gIf_t, bI_eq0, Bool.not_true]
        · rcases (by omega : f = 0 ∨ f = 1 ∨ f = 2 ∨ f = 3) with rfl | rfl | rfl | rfl <;> simp (disch := omega) only [gEq_f, gEq_t, cond_false, cond_true, gInb_t, gIf_t, bI_eq0, Bool.not_true]
      unfold cpE at c3
      obtain ⟨d1, d2⟩ := hD e he
      obtain ⟨d3, d4⟩ := hD f hf
      rcases d1 with ⟨g0, g1⟩ | ⟨g0, g1, g2, g3⟩
      · rw [g0] at c3
        rw [g1] at c2
        refine kPair_ro (-11) hI (c3.trans ?_) (c2.trans ?_)
        · simp (disch := omega) only [gInb_t, gLt_t, gLt_f, gEq_t, gEq_f, gIx_nat, gIx_id, gIf, cond_true, cond_false, gCi_some, gCv_some, gCr_some, gB01_0, gB01_1, gBi_01, gU_same, gU_off, gW_id, Int.toNat_natCast, Int.toNat_add, Int.toNat_mul, Int.reduceToNat, Nat.add_zero, Int.add_zero, bI_eq0, bI_B, Bool.not_true, Bool.not_false, bI_t, bI_f]
        · simp (disch := omega) only [gInb_t, gLt_t, gLt_f, gEq_t, gEq_f, gIx_nat, gIx_id, gIf, cond_true, cond_false, gCi_some, gCv_some, gCr_some, gB01_0, gB01_1, gBi_01, gU_same, gU_off, gW_id, Int.toNat_natCast, Int.toNat_add, Int.toNat_mul, Int.reduceToNat, Nat.add_zero, Int.add_zero, bI_eq0, bI_B, Bool.not_true, Bool.not_false, bI_t, bI_f]
      · rcases d3 with ⟨w0, w1⟩ | ⟨w0, w1, w2, w3⟩
        · rw [g0, w0] at c3
          rw [w1] at c2
          refine kPair_ro (-11) hI (c3.trans ?_) (c2.trans ?_)
          · simp (disch := omega) only [gInb_t, gLt_t, gLt_f, gEq_t, gEq_f, gIx_nat, gIx_id, gIf, cond_true, cond_false, gCi_some, gCv_some, gCr_some, gB01_0, gB01_1, gBi_01, gU_same, gU_off, gW_id, Int.toNat_natCast, Int.toNat_add, Int.toNat_mul, Int.reduceToNat, Nat.add_zero, Int.add_zero, bI_eq0, bI_B, Bool.not_true, Bool.not_false, bI_t, bI_f]
          · simp (disch := omega) only [gInb_t, gLt_t, gLt_f, gEq_t, gEq_f, gIx_nat, gIx_id, gIf, cond_true, cond_false, gCi_some, gCv_some, gCr_some, gB01_0, gB01_1, gBi_01, gU_same, gU_off, gW_id, Int.toNat_natCast, Int.toNat_add, Int.toNat_mul, Int.reduceToNat, Nat.add_zero, Int.add_zero, bI_eq0, bI_B, Bool.not_true, Bool.not_false, bI_t, bI_f]
        · rw [s_places N _ e i k (M 88 e) M he hi hk g3 ⟨g1, g2⟩, gCi_some, s_places N _ f j k (M 88 f) M hf hj hk w3 ⟨w1, w2⟩, gCi_some, g0, w0] at c3
          rw [s_span N _ e i k (M 88 e) M he hi hk rfl ⟨g1, g2⟩, gCi_some, s_span N _ f j k (M 88 f) M hf hj hk rfl ⟨w1, w2⟩, gCi_some] at c2
          by_cases r1 : 0 ≤ i ∧ 0 ≤ k ∧ i + k ≤ M 88 e
          · rw [decide_eq_true r1] at c3 c2
            by_cases r2 : 0 ≤ j ∧ 0 ≤ k ∧ j + k ≤ M 88 f
            · rw [decide_eq_true r2] at c3 c2
              obtain ⟨u, rfl⟩ : ∃ x : Nat, i = (x : Int) := ⟨i.toNat, by omega⟩
              obtain ⟨v, rfl⟩ : ∃ x : Nat, j = (x : Int) := ⟨j.toNat, by omega⟩
              obtain ⟨m, rfl⟩ : ∃ x : Nat, k = (x : Int) := ⟨k.toNat, by omega⟩
              rw [gIx_e (x := (u : Int)) (n := u) rfl (by omega), gIx_e (x := (v : Int)) (n := v) rfl (by omega), gIx_e (x := (m : Int)) (n := m) rfl (by omega), gW_id hi.1 hi.2, gW_id hj.1 hj.2, gW_id hk.1 hk.2, decide_eq_true (show 0 ≤ (u : Int) ∧ 0 ≤ (v : Int) ∧ 0 ≤ (m : Int) ∧ (u : Int) + (m : Int) ≤ ((10 : Nat) : Int) ∧ (v : Int) + (m : Int) ≤ ((10 : Nat) : Int) by omega)] at c3
              have fb : ∀ q x, ¬ (q = 70 + 3 * f ∨ q = 71 + 3 * f) → gCp (gCp M (70 + 3 * e) u (70 + 3 * f) v m) (71 + 3 * e) u (71 + 3 * f) v m q x = M q x := fun q x hq => by
                rw [gCp_off (by omega), gCp_off (by omega)]
              have s1 : ∀ x, gCp (gCp M (70 + 3 * e) u (70 + 3 * f) v m) (71 + 3 * e) u (71 + 3 * f) v m (70 + 3 * f) x = if v ≤ x ∧ x < v + m then M (70 + 3 * e) (u + (x - v)) else M (70 + 3 * f) x := fun x => by
                rw [gCp_off (by omega)]
                by_cases hx : v ≤ x ∧ x < v + m
                · rw [if_pos hx, gCp_in rfl hx.1 hx.2]
                · rw [if_neg hx, gCp_off (by omega)]
              have s2 : ∀ x, gCp (gCp M (70 + 3 * e) u (70 + 3 * f) v m) (71 + 3 * e) u (71 + 3 * f) v m (71 + 3 * f) x = if v ≤ x ∧ x < v + m then M (71 + 3 * e) (u + (x - v)) else M (71 + 3 * f) x := fun x => by
                by_cases hx : v ≤ x ∧ x < v + m
                · rw [if_pos hx, gCp_in rfl hx.1 hx.2, gCp_off (by omega)]
                · rw [if_neg hx, gCp_off (by omega), gCp_off (by omega)]
              have e1 : gEv N (d + 20) 84 [.inr (.inr 1), .inl (e : Int), .inl (u : Int), .inl (f : Int), .inl (v : Int), .inl (m : Int)] M = some (gCp (gCp M (70 + 3 * e) u (70 + 3 * f) v m) (71 + 3 * e) u (71 + 3 * f) v m, some (.inl (m : Int))) := by
                refine c3.trans ?_
                simp (disch := omega) only [gInb_t, gLt_t, gLt_f, gEq_t, gEq_f, gIx_nat, gIx_id, gIf, cond_true, cond_false, gCi_some, gCv_some, gCr_some, gB01_0, gB01_1, gBi_01, gU_same, gU_off, gW_id, Int.toNat_natCast, Int.toNat_add, Int.toNat_mul, Int.reduceToNat, Nat.add_zero, Int.add_zero, bI_eq0, bI_B, Bool.not_true, Bool.not_false, bI_t, bI_f]
              generalize gCp (gCp M (70 + 3 * e) u (70 + 3 * f) v m) (71 + 3 * e) u (71 + 3 * f) v m = Mb at e1 fb s1 s2
              obtain ⟨z', Mc, k1, k2, k3, k4⟩ := l_cp67 (gEv N (d + 19)) e u m (f : Int) (v : Int) Mb he (by omega) m 0 N Mb (by omega) (by omega) (fun _ _ _ => rfl) (fun x hx => absurd hx (Nat.not_lt_zero x))
              obtain ⟨Md, y2, y3, y4⟩ := l_cp125 (gEv N (d + 19)) f v m (e : Int) (u : Int) Mc hf (by omega) m 0 z' Mc (by omega) (by omega) (fun _ _ _ => rfl) (fun x hx => by
                rw [if_neg (by omega), if_neg (by omega)]
                exact ⟨rfl, rfl⟩)
              have c4 := q_X10_copy N (d + 19) (e : Int) (u : Int) (f : Int) (v : Int) (m : Int) Mb
              have e2 : gEv N (d + 20) 168 [.inr (.inr 82), .inl (e : Int), .inl (u : Int), .inl (f : Int), .inl (v : Int), .inl (m : Int)] Mb = some (Md, some (.inl (m : Int))) := by
                refine c4.trans ?_
                rw [s_mdr _ _ _ _ ha, gCi_some, s_mdr _ _ _ _ hb, gCi_some, decide_eq_true h0, decide_eq_true h1, ie, if', fb 88 e (by omega), fb 88 f (by omega), s_span N _ e (u : Int) (m : Int) (M 88 e) Mb he hi hk (fb _ _ (by omega)) ⟨g1, g2⟩, gCi_some, s_span N _ f (v : Int) (m : Int) (M 88 f) Mb hf hj hk (fb _ _ (by omega)) ⟨w1, w2⟩, gCi_some, decide_eq_true r1, decide_eq_true r2]
                refine Eq.trans ?_ (k2.trans y2)
                simp (disch := omega) only [gInb_t, gLt_t, gLt_f, gEq_t, gEq_f, gIx_nat, gIx_id, gIf, cond_true, cond_false, gCi_some, gCv_some, gCr_some, gB01_0, gB01_1, gBi_01, gU_same, gU_off, gW_id, Int.toNat_natCast, Int.toNat_add, Int.toNat_mul, Int.reduceToNat, Nat.add_zero, Int.add_zero, bI_eq0, bI_B, Bool.not_true, Bool.not_false, bI_t, bI_f]
                rfl
              have fd : ∀ q x, ¬ ((q = 89 ∨ q = 90) ∧ 10 * f ≤ x ∧ x < 10 * f + 10) → ¬ (q = 105 ∨ q = 106) → Md q x = Mb q x := fun q x h1 h2 => (y3 q x h1).trans (k3 q x h2)
              refine ⟨_, _, _, e1, e2, fun i => fb _ _ (by omega), fb _ _ (by omega), n, K, t, F, G, c, A, B, c', A', B', l, s, kI_drs (iDrs_one hf hD ⟨?_, fun x hx => ?_⟩ (fun q x hq hq2 => (fd q x (by omega) (by omega)).trans (fb q x (by omega)))) h (fun q x hq => by unfold kScr at hq; exact (fd q x (by omega) (by omega)).trans (fb q x (by omega)))⟩
              · rw [fd _ 0 (by omega) (by omega), fd _ 1 (by omega) (by omega), fd 88 _ (by omega) (by omega), fb _ 0 (by omega), fb _ 1 (by omega), fb 88 _ (by omega)]
                exact Or.inr ⟨w0, w1, w2, w3⟩
              · rw [fd (69 + 3 * f) 0 (by omega) (by omega), fb (69 + 3 * f) 0 (by omega), fd (70 + 3 * f) x (by omega) (by omega), fd (71 + 3 * f) x (by omega) (by omega), s1, s2, (y4 x hx).1, (y4 x hx).2]
                by_cases hx2 : v ≤ x ∧ x < v + m
                · have o := d2 (u + (x - v)) (by omega)
                  have k5 := k4 (x - v) (by omega)
                  simp only [if_pos hx2]
                  rw [k5.1, k5.2, fb 89 _ (by omega), fb 90 _ (by omega), show 10 * e + u + (x - v) = 10 * e + (u + (x - v)) by omega]
                  obtain ⟨o1, o2, o3, o4, o5, o6⟩ := o
                  exact ⟨o1, o2, o3, o4, o5, fun _ h5 => o6 g0 h5⟩
                · simp only [if_neg hx2]
                  rw [k3 89 _ (by omega), k3 90 _ (by omega), fb 89 _ (by omega), fb 90 _ (by omega)]
                  exact d4 x hx
            · rw [decide_eq_false r2] at c3 c2
              refine kPair_ro (-12) hI (c3.trans ?_) (c2.trans ?_)
              · simp (disch := omega) only [gInb_t, gLt_t, gLt_f, gEq_t, gEq_f, gIx_nat, gIx_id, gIf, cond_true, cond_false, gCi_some, gCv_some, gCr_some, gB01_0, gB01_1, gBi_01, gU_same, gU_off, gW_id, Int.toNat_natCast, Int.toNat_add, Int.toNat_mul, Int.reduceToNat, Nat.add_zero, Int.add_zero, bI_eq0, bI_B, Bool.not_true, Bool.not_false, bI_t, bI_f]
              · simp (disch := omega) only [gInb_t, gLt_t, gLt_f, gEq_t, gEq_f, gIx_nat, gIx_id, gIf, cond_true, cond_false, gCi_some, gCv_some, gCr_some, gB01_0, gB01_1, gBi_01, gU_same, gU_off, gW_id, Int.toNat_natCast, Int.toNat_add, Int.toNat_mul, Int.reduceToNat, Nat.add_zero, Int.add_zero, bI_eq0, bI_B, Bool.not_true, Bool.not_false, bI_t, bI_f]
          · rw [decide_eq_false r1] at c3 c2
            refine kPair_ro (-12) hI (c3.trans ?_) (c2.trans ?_)
            · simp (disch := omega) only [gInb_t, gLt_t, gLt_f, gEq_t, gEq_f, gIx_nat, gIx_id, gIf, cond_true, cond_false, gCi_some, gCv_some, gCr_some, gB01_0, gB01_1, gBi_01, gU_same, gU_off, gW_id, Int.toNat_natCast, Int.toNat_add, Int.toNat_mul, Int.reduceToNat, Nat.add_zero, Int.add_zero, bI_eq0, bI_B, Bool.not_true, Bool.not_false, bI_t, bI_f]
            · simp (disch := omega) only [gInb_t, gLt_t, gLt_f, gEq_t, gEq_f, gIx_nat, gIx_id, gIf, cond_true, cond_false, gCi_some, gCv_some, gCr_some, gB01_0, gB01_1, gBi_01, gU_same, gU_off, gW_id, Int.toNat_natCast, Int.toNat_add, Int.toNat_mul, Int.reduceToNat, Nat.add_zero, Int.add_zero, bI_eq0, bI_B, Bool.not_true, Bool.not_false, bI_t, bI_f]
    · rw [decide_eq_false h1] at c1 c2
      refine kPair_ro (-2) hI (c1.trans ?_) (c2.trans ?_)
      · simp (disch := omega) only [gInb_t, gLt_t, gLt_f, gEq_t, gEq_f, gIx_nat, gIx_id, gIf, cond_true, cond_false, gCi_some, gCv_some, gCr_some, gB01_0, gB01_1, gBi_01, gU_same, gU_off, gW_id, Int.toNat_natCast, Int.toNat_add, Int.toNat_mul, Int.reduceToNat, Nat.add_zero, Int.add_zero, bI_eq0, bI_B, Bool.not_true, Bool.not_false, bI_t, bI_f]
      · simp (disch := omega) only [gInb_t, gLt_t, gLt_f, gEq_t, gEq_f, gIx_nat, gIx_id, gIf, cond_true, cond_false, gCi_some, gCv_some, gCr_some, gB01_0, gB01_1, gBi_01, gU_same, gU_off, gW_id, Int.toNat_natCast, Int.toNat_add, Int.toNat_mul, Int.reduceToNat, Nat.add_zero, Int.add_zero, bI_eq0, bI_B, Bool.not_true, Bool.not_false, bI_t, bI_f]
  · rw [decide_eq_false h0] at c1 c2
    refine kPair_ro (-2) hI (c1.trans ?_) (c2.trans ?_)
    · simp (disch := omega) only [gInb_t, gLt_t, gLt_f, gEq_t, gEq_f, gIx_nat, gIx_id, gIf, cond_true, cond_false, gCi_some, gCv_some, gCr_some, gB01_0, gB01_1, gBi_01, gU_same, gU_off, gW_id, Int.toNat_natCast, Int.toNat_add, Int.toNat_mul, Int.reduceToNat, Nat.add_zero, Int.add_zero, bI_eq0, bI_B, Bool.not_true, Bool.not_false, bI_t, bI_f]
    · simp (disch := omega) only [gInb_t, gLt_t, gLt_f, gEq_t, gEq_f, gIx_nat, gIx_id, gIf, cond_true, cond_false, gCi_some, gCv_some, gCr_some, gB01_0, gB01_1, gBi_01, gU_same, gU_off, gW_id, Int.toNat_natCast, Int.toNat_add, Int.toNat_mul, Int.reduceToNat, Nat.add_zero, Int.add_zero, bI_eq0, bI_B, Bool.not_true, Bool.not_false, bI_t, bI_f]
