-- 63: tidy
def upN (V : Nat → Int) (i : Nat) (x : Int) : Nat → Int := fun j => if j = i then x else V j
theorem upN_same (V : Nat → Int) (i : Nat) (x : Int) : upN V i x i = x := by simp [upN]
theorem upN_off (V : Nat → Int) {i j : Nat} (x : Int) (h : j ≠ i) : upN V i x j = V j := by simp [upN, h]
theorem upN_id (V : Nat → Int) (i : Nat) : upN V i (V i) = V := by
  funext j
  unfold upN
  split
  · rename_i h; rw [h]
  · rfl
theorem upN_two (V : Nat → Int) (i : Nat) (x y : Int) : upN (upN V i y) i x = upN V i x := by
  funext j
  unfold upN
  split <;> rfl
theorem upN_swap (V : Nat → Int) {i k : Nat} (x y : Int) (h : i ≠ k) : upN (upN V i x) k y = upN (upN V k y) i x := by
  funext j
  unfold upN
  by_cases h1 : j = i
  · by_cases h2 : j = k
    · exact absurd (h1.symm.trans h2) h
    · simp [h1, h]
  · simp [h1]
/-- x goes down from a on, as long as it is ahead of what lies there -/
def insV (lt : Int → Int → Bool) : Nat → Int → (Nat → Int) → (Nat → Int)
  | 0, x, V => upN V 0 x
  | a + 1, x, V => cond (lt x (V a)) (insV lt a x (upN V (a + 1) (V a))) (upN V (a + 1) x)
theorem insV_irr (lt : Int → Int → Bool) : ∀ (a : Nat) (x y : Int) (V : Nat → Int), insV lt a x (upN V a y) = insV lt a x V
  | 0, x, y, V => upN_two V 0 x y
  | a + 1, x, y, V => by
    simp only [insV]
    rw [upN_off V y (show a ≠ a + 1 by omega), upN_two, upN_two]
theorem insV_P (lt : Int → Int → Bool) (P : Int → Prop) (m : Nat) : ∀ (a : Nat) (x : Int) (V : Nat → Int), a < m → P x → (∀ j, j < m → P (V j)) → ∀ j, j < m → P (insV lt a x V j)
  | 0, x, V, ha, hx, hV => fun j hj => by
    simp only [insV, upN]
    split
    · exact hx
    · exact hV j hj
  | a + 1, x, V, ha, hx, hV => fun j hj => by
    simp only [insV]
    cases lt x (V a) with
    | true =>
      refine insV_P lt P m a x _ (by omega) hx (fun i hi => ?_) j hj
      unfold upN
      split
      · exact hV a (by omega)
      · exact hV i hi
    | false =>
      simp only [cond_false, upN]
      split
      · exact hx
      · exact hV j hj
def sortV (lt : Int → Int → Bool) (V : Nat → Int) (k : Nat) : Nat → (Nat → Int)
  | 0 => V
  | r + 1 => sortV lt (insV lt k (V k) V) (k + 1) r
theorem sortV_P (lt : Int → Int → Bool) (P : Int → Prop) (m : Nat) : ∀ (r k : Nat) (V : Nat → Int), k + r ≤ m → (∀ j, j < m → P (V j)) → ∀ j, j < m → P (sortV lt V k r j)
  | 0, k, V, _, hV => hV
  | r + 1, k, V, h, hV => sortV_P lt P m r (k + 1) _ (by omega) (insV_P lt P m k (V k) V (by omega) (hV k (by omega)) hV)
theorem insV_hi (lt : Int → Int → Bool) : ∀ (a : Nat) (x : Int) (V : Nat → Int) (j : Nat), a < j → insV lt a x V j = V j
  | 0, x, V, j, h => upN_off V x (by omega)
  | a + 1, x, V, j, h => by
    simp only [insV]
    cases lt x (V a) with
    | true => exact (insV_hi lt a x _ j (by omega)).trans (upN_off V _ (by omega))
    | false => exact upN_off V _ (by omega)
theorem sortV_hi (lt : Int → Int → Bool) : ∀ (r k : Nat) (V : Nat → Int) (j : Nat), k + r ≤ j → sortV lt V k r j = V j
  | 0, _, _, _, _ => rfl
  | r + 1, k, V, j, h => (sortV_hi lt r (k + 1) _ j (by omega)).trans (insV_hi lt k _ V j (by omega))
theorem l_xins (C : gCl) (e m : Nat) (lt : Int → Int → Bool) (P : Int → Prop) (M0 : gM) (he : e < 4) (hm : m ≤ 10) (hC : ∀ M' x y, (∀ q i, q ≠ 71 + 3 * e → M' q i = M0 q i) → P x → P y → C 6 [.inr (.inr (69 + 3 * e + 1)), .inl x, .inl y, .inr (.inr 7)] M' = some (M', some (.inl (bI (lt x y))))) (k : Nat) (x : Int) (hx : P x) : ∀ (a z : Nat) (V : Nat → Int) (M : gM), a < m → a < z → (∀ q i, q ≠ 71 + 3 * e → M q i = M0 q i) → (∀ i, i < 10 → M (71 + 3 * e) i = V i) → (∀ i, i < m → P (V i)) → ∃ z' M', z ≤ z' + a + 1 ∧ L_X0_sort_20 C z (69 + 3 * e) (k : Int) x (a : Int) M = L_X0_sort_2 C z' (69 + 3 * e) ((k + 1 : Nat) : Int) M' ∧ (∀ q i, q ≠ 71 + 3 * e → M' q i = M0 q i) ∧ (∀ i, i < 10 → M' (71 + 3 * e) i = insV lt a x V i) := by
  have e71 : 69 + 3 * e + 2 = 71 + 3 * e := by omega
  intro a
  induction a with
  | zero =>
    intro z V M ha hz hf hV hP
    obtain ⟨z, rfl⟩ : ∃ y, z = y + 1 := ⟨z - 1, by omega⟩
    refine ⟨z, gU M (71 + 3 * e) 0 x, by omega, ?_, fun q i hq => (gU_off _ _ (by omega)).trans (hf q i hq), fun i hi => ?_⟩
    · rw [q_X0_sort_20 _ _ _ _ _ _ _ (dPl he), gIx_e (x := ((0 : Nat) : Int)) (n := 0) rfl (by omega), e71, cast_1 k]
      simp (disch := omega) only [gInb_t, gLt_t, gLt_f, gEq_t, gEq_f, gIx_nat, gIx_id, gIf, cond_true, cond_false, gCi_some, gCv_some, gCr_some, gB01_0, gB01_1, gBi_01, gU_same, gU_off, gW_id, Int.toNat_natCast, Int.toNat_add, Int.toNat_mul, Int.reduceToNat, Nat.add_zero, Int.add_zero]
    · simp only [insV, upN]
      by_cases h : i = 0
      · subst h; rw [gU_same, if_pos rfl]
      · rw [gU_off _ _ (by omega), if_neg h]; exact hV i hi
  | succ a ih =>
    intro z V M ha hz hf hV hP
    obtain ⟨z, rfl⟩ : ∃ y, z = y + 1 := ⟨z - 1, by omega⟩
    have ia := gIx_e (x := ((a + 1 : Nat) : Int)) (n := a + 1) rfl (by omega)
    have ia1 := gIx_e (x := ((a + 1 : Nat) : Int) - 1) (n := a) (by omega) (by omega)
    have hc := hC M x (V a) hf hx (hP a (by omega))
    cases hlt : lt x (V a) with
    | true =>
      rw [hlt] at hc
      obtain ⟨z', M', f1, f2, f3, f4⟩ := ih z (upN V (a + 1) (V a)) (gU M (71 + 3 * e) (a + 1) (V a)) (by omega) (by omega) (fun q i hq => (gU_off _ _ (by omega)).trans (hf q i hq)) (fun i hi => by
        unfold upN
        by_cases h : i = a + 1
        · subst h; rw [gU_same, if_pos rfl]
        · rw [gU_off _ _ (by omega), if_neg h]; exact hV i hi) (fun i hi => by
        unfold upN
        split
        · exact hP a (by omega)
        · exact hP i hi)
      refine ⟨z', M', by omega, ?_, f3, fun i hi => ?_⟩
      · rw [q_X0_sort_20 _ _ _ _ _ _ _ (dPl he), ia, ia1, e71, hV a (by omega), hc, gCi_some, hV a (by omega), show ((a + 1 : Nat) : Int) + (-1) = (a : Int) by omega, f2]
        simp (disch := omega) only [gInb_t, gLt_t, gLt_f, gEq_t, gEq_f, gIx_nat, gIx_id, gIf, cond_true, cond_false, gCi_some, gCv_some, gCr_some, gB01_0, gB01_1, gBi_01, gU_same, gU_off, gW_id, Int.toNat_natCast, Int.toNat_add, Int.toNat_mul, Int.reduceToNat, Nat.add_zero, Int.add_zero, bI_eq0, bI_B, Bool.not_true, Bool.not_false, bI_t, bI_f]
      · rw [f4 i hi]
        simp only [insV, hlt, cond_true]
    | false =>
      rw [hlt] at hc
      refine ⟨z, gU M (71 + 3 * e) (a + 1) x, by omega, ?_, fun q i hq => (gU_off _ _ (by omega)).trans (hf q i hq), fun i hi => ?_⟩
      · rw [q_X0_sort_20 _ _ _ _ _ _ _ (dPl he), ia, ia1, e71, hV a (by omega), hc, gCi_some, cast_1 k]
        simp (disch := omega) only [gInb_t, gLt_t, gLt_f, gEq_t, gEq_f, gIx_nat, gIx_id, gIf, cond_true, cond_false, gCi_some, gCv_some, gCr_some, gB01_0, gB01_1, gBi_01, gU_same, gU_off, gW_id, Int.toNat_natCast, Int.toNat_add, Int.toNat_mul, Int.reduceToNat, Nat.add_zero, Int.add_zero, bI_eq0, bI_B, Bool.not_true, Bool.not_false, bI_t, bI_f]
      · simp only [insV, hlt, cond_false, upN]
        by_cases h : i = a + 1
        · subst h; rw [gU_same, if_pos rfl]
        · rw [gU_off _ _ (by omega), if_neg h]; exact hV i hi
theorem l_xsort (C : gCl) (e m : Nat) (lt : Int → Int → Bool) (P : Int → Prop) (M0 : gM) (he : e < 4) (hm : m ≤ 10) (h1 : M0 (69 + 3 * e) 1 = (m : Int)) (hC : ∀ M' x y, (∀ q i, q ≠ 71 + 3 * e → M' q i = M0 q i) → P x → P y → C 6 [.inr (.inr (69 + 3 * e + 1)), .inl x, .inl y, .inr (.inr 7)] M' = some (M', some (.inl (bI (lt x y))))) : ∀ (r k z : Nat) (V : Nat → Int) (M : gM), (k + r = m ∨ (r = 0 ∧ m ≤ k ∧ k ≤ 11)) → 20 * r < z → (∀ q i, q ≠ 71 + 3 * e → M q i = M0 q i) → (∀ i, i < 10 → M (71 + 3 * e) i = V i) → (∀ i, i < m → P (V i)) → ∃ M', L_X0_sort_2 C z (69 + 3 * e) (k : Int) M = some (M', none) ∧ (∀ q i, q ≠ 71 + 3 * e → M' q i = M0 q i) ∧ (∀ i, i < 10 → M' (71 + 3 * e) i = sortV lt V k r i) := by
  have e71 : 69 + 3 * e + 2 = 71 + 3 * e := by omega
  intro r
  induction r with
  | zero =>
    intro k z V M hk hz hf hV hP
    obtain ⟨z, rfl⟩ : ∃ y, z = y + 1 := ⟨z - 1, by omega⟩
    refine ⟨M, ?_, hf, hV⟩
    rw [q_X0_sort_2 _ _ _ _ _ (dPl he), hf _ _ (by omega), h1]
    simp (disch := omega) only [gInb_t, gLt_t, gLt_f, gEq_t, gEq_f, gIx_nat, gIx_id, gIf, cond_true, cond_false, gCi_some, gCv_some, gCr_some, gB01_0, gB01_1, gBi_01, gU_same, gU_off, gW_id, Int.toNat_natCast, Int.toNat_add, Int.toNat_mul, Int.reduceToNat, Nat.add_zero, Int.add_zero]
  | succ r ih =>
    intro k z V M hk hz hf hV hP
    obtain ⟨z, rfl⟩ : ∃ y, z = y + 1 := ⟨z - 1, by omega⟩
    have hk2 : k + (r + 1) = m := by omega
    obtain ⟨z', M1, f1, f2, f3, f4⟩ := l_xins C e m lt P M0 he hm hC k (V k) (hP k (by omega)) k z V M (by omega) (by omega) hf hV hP
    obtain ⟨M2, g1, g2, g3⟩ := ih (k + 1) z' (insV lt k (V k) V) M1 (by omega) (by omega) f3 f4 (insV_P lt P m k (V k) V (by omega) (hP k (by omega)) hP)
    refine ⟨M2, ?_, g2, g3⟩
    rw [q_X0_sort_2 _ _ _ _ _ (dPl he), hf _ _ (show 69 + 3 * e ≠ 71 + 3 * e by omega), h1, gIx_e (x := (k : Int)) (n := k) rfl (by omega), e71, hV k (by omega), f2, g1]
    simp (disch := omega) only [gInb_t, gLt_t, gLt_f, gEq_t, gEq_f, gIx_nat, gIx_id, gIf, cond_true, cond_false, gCi_some, gCv_some, gCr_some, gB01_0, gB01_1, gBi_01, gU_same, gU_off, gW_id, Int.toNat_natCast, Int.toNat_add, Int.toNat_mul, Int.reduceToNat, Nat.add_zero, Int.add_zero]
theorem l_mins (C : gCl) (e m : Nat) (s b1 b2 : Int) (lt : Int → Int → Bool) (P : Int → Prop) (M0 : gM) (he : e < 4) (hm : m ≤ 10) (hs : ∀ i, i < m → M0 89 (10 * e + i) = s) (hC : ∀ M' x y, (∀ q i, ¬ (q = 90 ∧ 10 * e ≤ i ∧ i < 10 * e + 10) → M' q i = M0 q i) → P x → P y → C 165 [.inr (.inr 82), .inl s, .inl y, .inl x] M' = some (M', some (.inl (bI (lt x y))))) (k : Nat) : ∀ (a z : Nat) (V : Nat → Int) (M : gM), a < m → a < z → (∀ q i, ¬ (q = 90 ∧ 10 * e ≤ i ∧ i < 10 * e + 10) → M q i = M0 q i) → (∀ i, i < 10 → M 90 (10 * e + i) = V i) → (∀ i, i < m → P (V i)) → ∃ z' M', z ≤ z' + a + 1 ∧ L_X10_tidy_149 C z (e : Int) b1 b2 (k : Int) ((10 * e + a : Nat) : Int) M = L_X10_tidy_129 C z' (e : Int) b1 b2 ((k + 1 : Nat) : Int) M' ∧ (∀ q i, ¬ (q = 90 ∧ 10 * e ≤ i ∧ i < 10 * e + 10) → M' q i = M0 q i) ∧ (∀ i, i < 10 → M' 90 (10 * e + i) = insV lt a (V a) V i) := by
  intro a
  induction a with
  | zero =>
    intro z V M ha hz hf hV hP
    obtain ⟨z, rfl⟩ : ∃ y, z = y + 1 := ⟨z - 1, by omega⟩
    refine ⟨z, M, by omega, ?_, hf, fun i hi => ?_⟩
    · rw [q_X10_tidy_149, cast_1 k]
      simp (disch := omega) only [gInb_t, gLt_t, gLt_f, gEq_t, gEq_f, gIx_nat, gIx_id, gIf, cond_true, cond_false, gCi_some, gCv_some, gCr_some, gB01_0, gB01_1, gBi_01, gU_same, gU_off, gW_id, Int.toNat_natCast, Int.toNat_add, Int.toNat_mul, Int.reduceToNat, Nat.add_zero, Int.add_zero]
    · simp only [insV]
      rw [upN_id]
      exact hV i hi
  | succ a ih =>
    intro z V M ha hz hf hV hP
    obtain ⟨z, rfl⟩ : ∃ y, z = y + 1 := ⟨z - 1, by omega⟩
    have ia := gIx_e (x := ((10 * e + (a + 1) : Nat) : Int)) (n := 10 * e + (a + 1)) rfl (by omega)
    have ia1 := gIx_e (x := ((10 * e + (a + 1) : Nat) : Int) - 1) (n := 10 * e + a) (by omega) (by omega)
    have hc := hC M (V (a + 1)) (V a) hf (hP _ (by omega)) (hP a (by omega))
    have h89 : M 89 (10 * e + (a + 1)) = s := (hf _ _ (by omega)).trans (hs (a + 1) (by omega))
    cases hlt : lt (V (a + 1)) (V a) with
    | true =>
      rw [hlt] at hc
      obtain ⟨z', M', f1, f2, f3, f4⟩ := ih z (upN (upN V (a + 1) (V a)) a (V (a + 1))) (gU (gU M 90 (10 * e + (a + 1)) (V a)) 90 (10 * e + a) (V (a + 1))) (by omega) (by omega) (fun q i hq => ((gU_off _ _ (by omega)).trans (gU_off _ _ (by omega))).trans (hf q i hq)) (fun i hi => by
        by_cases h : i = a
        · subst h; rw [gU_same, upN_same]
        · rw [gU_off _ _ (by omega), upN_off _ _ h]
          by_cases h2 : i = a + 1
          · subst h2; rw [gU_same, upN_same]
          · rw [gU_off _ _ (by omega), upN_off _ _ h2]; exact hV i hi) (fun i hi => by
        unfold upN
        split
        · exact hP (a + 1) (by omega)
        · split
          · exact hP a (by omega)
          · exact hP i hi)
      refine ⟨z', M', by omega, ?_, f3, fun i hi => ?_⟩
      · rw [q_X10_tidy_149, ia, ia1, h89, hV a (by omega), hV (a + 1) (by omega), hc, gCi_some, hV a (by omega), hV (a + 1) (by omega), show ((10 * e + (a + 1) : Nat) : Int) + (-1) = ((10 * e + a : Nat) : Int) by omega, f2]
        simp (disch := omega) only [gInb_t, gLt_t, gLt_f, gEq_t, gEq_f, gIx_nat, gIx_id, gIf, cond_true, cond_false, gCi_some, gCv_some, gCr_some, gB01_0, gB01_1, gBi_01, gU_same, gU_off, gW_id, Int.toNat_natCast, Int.toNat_add, Int.toNat_mul, Int.reduceToNat, Nat.add_zero, Int.add_zero, bI_eq0, bI_B, Bool.not_true, Bool.not_false, bI_t, bI_f]
      · rw [f4 i hi, upN_same, insV_irr]
        simp only [insV, hlt, cond_true]
    | false =>
      rw [hlt] at hc
      refine ⟨z, M, by omega, ?_, hf, fun i hi => ?_⟩
      · rw [q_X10_tidy_149, ia, ia1, h89, hV a (by omega), hV (a + 1) (by omega), hc, gCi_some, cast_1 k]
        simp (disch := omega) only [gInb_t, gLt_t, gLt_f, gEq_t, gEq_f, gIx_nat, gIx_id, gIf, cond_true, cond_false, gCi_some, gCv_some, gCr_some, gB01_0, gB01_1, gBi_01, gU_same, gU_off, gW_id, Int.toNat_natCast, Int.toNat_add, Int.toNat_mul, Int.reduceToNat, Nat.add_zero, Int.add_zero, bI_eq0, bI_B, Bool.not_true, Bool.not_false, bI_t, bI_f]
      · simp only [insV, hlt, cond_false]
        rw [upN_id]
        exact hV i hi
theorem l_msort (C : gCl) (e m : Nat) (s b1 b2 : Int) (lt : Int → Int → Bool) (P : Int → Prop) (M0 : gM) (he : e < 4) (hm : m ≤ 10) (h1 : M0 88 e = (m : Int)) (hs : ∀ i, i < m → M0 89 (10 * e + i) = s) (hC : ∀ M' x y, (∀ q i, ¬ (q = 90 ∧ 10 * e ≤ i ∧ i < 10 * e + 10) → M' q i = M0 q i) → P x → P y → C 165 [.inr (.inr 82), .inl s, .inl y, .inl x] M' = some (M', some (.inl (bI (lt x y))))) : ∀ (r k z : Nat) (V : Nat → Int) (M : gM), (k + r = m ∨ (r = 0 ∧ m ≤ k ∧ k ≤ 11)) → 20 * r < z → (∀ q i, ¬ (q = 90 ∧ 10 * e ≤ i ∧ i < 10 * e + 10) → M q i = M0 q i) → (∀ i, i < 10 → M 90 (10 * e + i) = V i) → (∀ i, i < m → P (V i)) → ∃ M', L_X10_tidy_129 C z (e : Int) b1 b2 (k : Int) M = some (M', some (.inl (m : Int))) ∧ (∀ q i, ¬ (q = 90 ∧ 10 * e ≤ i ∧ i < 10 * e + 10) → M' q i = M0 q i) ∧ (∀ i, i < 10 → M' 90 (10 * e + i) = sortV lt V k r i) := by
  have ie := gIx_e (x := (e : Int)) (n := e) rfl (by omega)
  intro r
  induction r with
  | zero =>
    intro k z V M hk hz hf hV hP
    obtain ⟨z, rfl⟩ : ∃ y, z = y + 1 := ⟨z - 1, by omega⟩
    refine ⟨M, ?_, hf, hV⟩
    rw [q_X10_tidy_129, ie, hf _ _ (by omega), h1]
    simp (disch := omega) only [gInb_t, gLt_t, gLt_f, gEq_t, gEq_f, gIx_nat, gIx_id, gIf, cond_true, cond_false, gCi_some, gCv_some, gCr_some, gB01_0, gB01_1, gBi_01, gU_same, gU_off, gW_id, Int.toNat_natCast, Int.toNat_add, Int.toNat_mul, Int.reduceToNat, Nat.add_zero, Int.add_zero]
  | succ r ih =>
    intro k z V M hk hz hf hV hP
    obtain ⟨z, rfl⟩ : ∃ y, z = y + 1 := ⟨z - 1, by omega⟩
    have hk2 : k + (r + 1) = m := by omega
    obtain ⟨z', M1, f1, f2, f3, f4⟩ := l_mins C e m s b1 b2 lt P M0 he hm hs hC k k z V M (by omega) (by omega) hf hV hP
    obtain ⟨M2, g1, g2, g3⟩ := ih (k + 1) z' (insV lt k (V k) V) M1 (by omega) (by omega) f3 f4 (insV_P lt P m k (V k) V (by omega) (hP k (by omega)) hP)
    refine ⟨M2, ?_, g2, g3⟩
    rw [q_X10_tidy_129, ie, hf _ _ (show ¬ (88 = 90 ∧ 10 * e ≤ e ∧ e < 10 * e + 10) by omega), h1, show 10 * (e : Int) + (k : Int) = ((10 * e + k : Nat) : Int) by omega, f2, g1]
    simp (disch := omega) only [gInb_t, gLt_t, gLt_f, gEq_t, gEq_f, gIx_nat, gIx_id, gIf, cond_true, cond_false, gCi_some, gCv_some, gCr_some, gB01_0, gB01_1, gBi_01, gU_same, gU_off, gW_id, Int.toNat_natCast, Int.toNat_add, Int.toNat_mul, Int.reduceToNat, Nat.add_zero, Int.add_zero]
def oB (f : Nat → Bool) (k : Nat) : Nat → Bool
  | 0 => false
  | r + 1 => f k || oB f (k + 1) r
theorem oB_cB (f : Nat → Bool) : ∀ (r k : Nat), cB (fun i => !(f i)) k r < r ↔ oB f k r = true
  | 0, k => by simp [cB, oB]
  | r + 1, k => by
    have h1 := cB_le (fun i => !(f i)) r (k + 1)
    have h2 := oB_cB f r (k + 1)
    simp only [cB, oB]
    cases hf : f k with
    | true => simp; omega
    | false =>
      simp only [Bool.not_false, cond_true, Bool.false_or]
      rw [← h2]
      omega
theorem oB_no (f : Nat → Bool) : ∀ (r k : Nat), oB f k r = false → ∀ i, k ≤ i → i < k + r → f i = false
  | 0, k, _, i, h1, h2 => by omega
  | r + 1, k, h, i, h1, h2 => by
    simp only [oB, Bool.or_eq_false_iff] at h
    by_cases hi : i = k
    · subst hi; exact h.1
    · exact oB_no f r (k + 1) h.2 i (by omega) (by omega)
