-- 67: kinds
/-- the step of one behind c lents, were it of kind k -/
def stBy (F : Nat → List Int) (p k c : Nat) : Int := stepK (loadK k (fadeL ((c * fadesN k : Nat) : Int) (F p)))
def isHis (W : Nat → Int) (p : Nat) : Nat → Bool := fun j => decide (W j = (p : Int))
def isSo (F : Nat → List Int) (W Ln St : Nat → Int) (p k : Nat) : Nat → Bool := fun j => decide (W j = (p : Int)) && decide (stBy F p k (Ln j).toNat = St j)
theorem l_xof (C : gCl) (p s : Nat) (W : Nat → Int) (M : gM) (hp : p < 7) (hs : s ≤ 6) (h54 : M 54 0 = (s : Int)) (hW : ∀ j, j < s → M 55 j = W j ∧ rng (W j)) : ∀ (r k z a : Nat), k + r = s → r < z → L_X6_howManyOf_4 C z (p : Int) (a : Int) (k : Int) M = some (M, some (.inl ((a + cB (isHis W p) k r : Nat) : Int))) := by
  intro r
  induction r with
  | zero =>
    intro k z a hk hz
    obtain ⟨z, rfl⟩ : ∃ y, z = y + 1 := ⟨z - 1, by omega⟩
    rw [q_X6_howManyOf_4, h54]
    simp (disch := omega) only [gInb_t, gLt_t, gLt_f, gEq_t, gEq_f, gIx_nat, gIx_id, gIf, cond_true, cond_false, gCi_some, gCv_some, gCr_some, gB01_0, gB01_1, gBi_01, gU_same, gU_off, gW_id, Int.toNat_natCast, Int.toNat_add, Int.toNat_mul, Int.reduceToNat, Nat.add_zero, Int.add_zero, cB]
  | succ r ih =>
    intro k z a hk hz
    obtain ⟨z, rfl⟩ : ∃ y, z = y + 1 := ⟨z - 1, by omega⟩
    obtain ⟨w1, w2, w3⟩ := hW k (by omega)
    rw [q_X6_howManyOf_4, h54, gIx_e (x := (k : Int)) (n := k) rfl (by omega), w1, cast_1 k, cast_1 a, ih (k + 1) z _ (by omega) (by omega), ih (k + 1) z _ (by omega) (by omega)]
    simp only [cB, isHis]
    by_cases h : W k = (p : Int)
    · rw [decide_eq_true h]
      simp (disch := omega) only [gInb_t, gLt_t, gLt_f, gEq_t, gEq_f, gIx_nat, gIx_id, gIf, cond_true, cond_false, gCi_some, gCv_some, gCr_some, gB01_0, gB01_1, gBi_01, gU_same, gU_off, gW_id, Int.toNat_natCast, Int.toNat_add, Int.toNat_mul, Int.reduceToNat, Nat.add_zero, Int.add_zero]
      simp [Nat.add_assoc]
    · rw [decide_eq_false h]
      simp (disch := omega) only [gInb_t, gLt_t, gLt_f, gEq_t, gEq_f, gIx_nat, gIx_id, gIf, cond_true, cond_false, gCi_some, gCv_some, gCr_some, gB01_0, gB01_1, gBi_01, gU_same, gU_off, gW_id, Int.toNat_natCast, Int.toNat_add, Int.toNat_mul, Int.reduceToNat, Nat.add_zero, Int.add_zero]
      simp
theorem l_xso (N d p n k s : Nat) (t : Int) (F : Nat → List Int) (W Ln St : Nat → Int) (M : gM) (hN : 10 ≤ N) (hn : n ≤ 7) (hp : p < n) (hk : k < 5) (hs : s ≤ 6) (hF : kOk n t F) (hG : kG M n 8 t F) (h54 : M 54 0 = (s : Int)) (hW : ∀ j, j < s → M 55 j = W j ∧ rng (W j) ∧ M 56 j = Ln j ∧ 0 ≤ Ln j ∧ Ln j ≤ 12 ∧ M 57 j = St j ∧ rng (St j)) : ∀ (r j z a : Nat), j + r = s → r < z → L_X6_howManySo_6 (gEv N (d + 2)) z (p : Int) (k : Int) (a : Int) (j : Int) M = some (M, some (.inl ((a + cB (isSo F W Ln St p k) j r : Nat) : Int))) := by
  intro r
  induction r with
  | zero =>
    intro j z a hj hz
    obtain ⟨z, rfl⟩ : ∃ y, z = y + 1 := ⟨z - 1, by omega⟩
    rw [q_X6_howManySo_6, h54]
    simp (disch := omega) only [gInb_t, gLt_t, gLt_f, gEq_t, gEq_f, gIx_nat, gIx_id, gIf, cond_true, cond_false, gCi_some, gCv_some, gCr_some, gB01_0, gB01_1, gBi_01, gU_same, gU_off, gW_id, Int.toNat_natCast, Int.toNat_add, Int.toNat_mul, Int.reduceToNat, Nat.add_zero, Int.add_zero, cB]
  | succ r ih =>
    intro j z a hj hz
    obtain ⟨z, rfl⟩ : ∃ y, z = y + 1 := ⟨z - 1, by omega⟩
    obtain ⟨w1, ⟨w2, w3⟩, w4, w5, w6, w7, ⟨w8, w9⟩⟩ := hW j (by omega)
    obtain ⟨c, hc⟩ : ∃ c : Nat, Ln j = (c : Int) := ⟨(Ln j).toNat, by omega⟩
    have hld := loadK_bd hk (fadeL_ok (b := ((c * fadesN k : Nat) : Int)) (by omega) (hF.2.2 p hp))
    have hsb : stepK (loadK k (fadeL ((c * fadesN k : Nat) : Int) (F p))) = stBy F p k c := rfl
    have hst := stepK_bd hld.1
    rw [hsb] at hst
    rw [q_X6_howManySo_6, h54, gIx_e (x := (j : Int)) (n := j) rfl (by omega), w1, w4, hc, s_xloadAs N d 8 p n k c t F M hN hn hp hk kPl8 (by omega) hF hG, gCi_some, s_stepX N _ _ M hld.1 (by omega), gCi_some, w7, hsb, cast_1 j, cast_1 a, ih (j + 1) z _ (by omega) (by omega), ih (j + 1) z _ (by omega) (by omega)]
    simp only [cB, isSo]
    rw [hc, Int.toNat_natCast]
    by_cases h : W j = (p : Int)
    · rw [decide_eq_true h]
      by_cases h2 : stBy F p k c = St j
      · rw [decide_eq_true h2]
        simp (disch := omega) only [gInb_t, gLt_t, gLt_f, gEq_t, gEq_f, gIx_nat, gIx_id, gIf, cond_true, cond_false, gCi_some, gCv_some, gCr_some, gB01_0, gB01_1, gBi_01, gU_same, gU_off, gW_id, Int.toNat_natCast, Int.toNat_add, Int.toNat_mul, Int.reduceToNat, Nat.add_zero, Int.add_zero, Bool.true_and]
        simp [Nat.add_assoc]
      · rw [decide_eq_false h2]
        simp (disch := omega) only [gInb_t, gLt_t, gLt_f, gEq_t, gEq_f, gIx_nat, gIx_id, gIf, cond_true, cond_false, gCi_some, gCv_some, gCr_some, gB01_0, gB01_1, gBi_01, gU_same, gU_off, gW_id, Int.toNat_natCast, Int.toNat_add, Int.toNat_mul, Int.reduceToNat, Nat.add_zero, Int.add_zero, Bool.true_and]
        simp
    · rw [decide_eq_false h]
      simp (disch := omega) only [gInb_t, gLt_t, gLt_f, gEq_t, gEq_f, gIx_nat, gIx_id, gIf, cond_true, cond_false, gCi_some, gCv_some, gCr_some, gB01_0, gB01_1, gBi_01, gU_same, gU_off, gW_id, Int.toNat_natCast, Int.toNat_add, Int.toNat_mul, Int.reduceToNat, Nat.add_zero, Int.add_zero, Bool.false_and]
      simp
def setF (b : Nat → Bool) (k : Nat) (x : Int) : Nat → Int
  | 0 => x
  | r + 1 => setF b (k + 1) (cond (b k) (gOr x (gShl 1 (k : Int))) x) r
theorem l_xposs (C : gCl) (p : Nat) (f : Nat → Nat) (o : Nat) (M : gM) (ho : o ≤ 6) (hf : ∀ k, f k ≤ 6) (hC : ∀ k : Nat, k < 5 → C 37 [.inr (.inr 55), .inl (p : Int), .inl (k : Int), .inr (.inr 9)] M = some (M, some (.inl ((f k : Nat) : Int)))) (hO : C 36 [.inr (.inr 55), .inl (p : Int)] M = some (M, some (.inl (o : Int)))) : ∀ (r k z : Nat) (x : Int), k + r = 5 → r < z → L_X6_possibleKinds_5 C z (p : Int) x (k : Int) M = some (M, some (.inl (setF (fun k => decide (f k = o)) k x r))) := by
  intro r
  induction r with
  | zero =>
    intro k z x hk hz
    obtain ⟨z, rfl⟩ : ∃ y, z = y + 1 := ⟨z - 1, by omega⟩
    rw [q_X6_possibleKinds_5]
    simp (disch := omega) only [gInb_t, gLt_t, gLt_f, gEq_t, gEq_f, gIx_nat, gIx_id, gIf, cond_true, cond_false, gCi_some, gCv_some, gCr_some, gB01_0, gB01_1, gBi_01, gU_same, gU_off, gW_id, Int.toNat_natCast, Int.toNat_add, Int.toNat_mul, Int.reduceToNat, Nat.add_zero, Int.add_zero, setF]
  | succ r ih =>
    intro k z x hk hz
    obtain ⟨z, rfl⟩ : ∃ y, z = y + 1 := ⟨z - 1, by omega⟩
    have := hf k
    rw [q_X6_possibleKinds_5, hC k (by omega), gCi_some, hO, gCi_some, cast_1 k, ih (k + 1) z _ (by omega) (by omega), ih (k + 1) z _ (by omega) (by omega)]
    simp only [setF]
    by_cases h : f k = o
    · rw [decide_eq_true h]
      simp (disch := omega) only [gInb_t, gLt_t, gLt_f, gEq_t, gEq_f, gIx_nat, gIx_id, gIf, cond_true, cond_false, gCi_some, gCv_some, gCr_some, gB01_0, gB01_1, gBi_01, gU_same, gU_off, gW_id, Int.toNat_natCast, Int.toNat_add, Int.toNat_mul, Int.reduceToNat, Nat.add_zero, Int.add_zero]
    · rw [decide_eq_false h]
      simp (disch := omega) only [gInb_t, gLt_t, gLt_f, gEq_t, gEq_f, gIx_nat, gIx_id, gIf, cond_true, cond_false, gCi_some, gCv_some, gCr_some, gB01_0, gB01_1, gBi_01, gU_same, gU_off, gW_id, Int.toNat_natCast, Int.toNat_add, Int.toNat_mul, Int.reduceToNat, Nat.add_zero, Int.add_zero]
theorem l_xlike (C : gCl) (p : Nat) (f : Nat → Nat) (M : gM) (hf : ∀ k, f k ≤ 6) (hC : ∀ k : Nat, k < 5 → C 37 [.inr (.inr 55), .inl (p : Int), .inl (k : Int), .inr (.inr 9)] M = some (M, some (.inl ((f k : Nat) : Int)))) : ∀ (r k i z : Nat), k + r = 5 → i < 5 → r < z → L_X6_likeliestKind_5 C z (p : Int) (i : Int) (k : Int) M = some (M, some (.inl ((gIdx (fun k => ((f k : Nat) : Int)) k i r : Nat) : Int))) := by
  intro r
  induction r with
  | zero =>
    intro k i z hk hi hz
    obtain ⟨z, rfl⟩ : ∃ y, z = y + 1 := ⟨z - 1, by omega⟩
    rw [q_X6_likeliestKind_5]
    simp (disch := omega) only [gInb_t, gLt_t, gLt_f, gEq_t, gEq_f, gIx_nat, gIx_id, gIf, cond_true, cond_false, gCi_some, gCv_some, gCr_some, gB01_0, gB01_1, gBi_01, gU_same, gU_off, gW_id, Int.toNat_natCast, Int.toNat_add, Int.toNat_mul, Int.reduceToNat, Nat.add_zero, Int.add_zero, gIdx]
  | succ r ih =>
    intro k i z hk hi hz
    obtain ⟨z, rfl⟩ : ∃ y, z = y + 1 := ⟨z - 1, by omega⟩
    have := hf k
    have := hf i
    rw [q_X6_likeliestKind_5, hC k (by omega), gCi_some, hC i (by omega), gCi_some, cast_1 k, ih (k + 1) i z (by omega) (by omega) (by omega), ih (k + 1) k z (by omega) (by omega) (by omega)]
    simp only [gIdx]
    by_cases h : ((f i : Nat) : Int) < ((f k : Nat) : Int)
    · rw [if_pos h]
      simp (disch := omega) only [gInb_t, gLt_t, gLt_f, gEq_t, gEq_f, gIx_nat, gIx_id, gIf, cond_true, cond_false, gCi_some, gCv_some, gCr_some, gB01_0, gB01_1, gBi_01, gU_same, gU_off, gW_id, Int.toNat_natCast, Int.toNat_add, Int.toNat_mul, Int.reduceToNat, Nat.add_zero, Int.add_zero]
    · rw [if_neg h]
      simp (disch := omega) only [gInb_t, gLt_t, gLt_f, gEq_t, gEq_f, gIx_nat, gIx_id, gIf, cond_true, cond_false, gCi_some, gCv_some, gCr_some, gB01_0, gB01_1, gBi_01, gU_same, gU_off, gW_id, Int.toNat_natCast, Int.toNat_add, Int.toNat_mul, Int.reduceToNat, Nat.add_zero, Int.add_zero]
/-- the model's step, were it of kind k -/
theorem l_mstep (N d p n k c : Nat) (F : Nat → List Int) (hN : 10 ≤ N) (hn : n ≤ 7) (hp : p < n) (hk : k < 5) (hc : c ≤ 12) (hF : kOkL (F p)) : ∀ (r j z : Nat) (M : gM), j + r = c → r < z → M 82 (414 + 21 + p) = (((fadeL ((j * fadesN k : Nat) : Int) (F p)).length : Nat) : Int) → gAtL M 82 (414 + 3 * p) (fadeL ((j * fadesN k : Nat) : Int) (F p)) → ∃ M', L_X10_stepBy_13 (gEv N (d + 2)) z (p : Int) (k : Int) (c : Int) (j : Int) M = some (M', some (.inl (stBy F p k c))) ∧ ∀ q i, ¬ (q = 82 ∧ 414 ≤ i) → M' q i = M q i := by
  intro r
  have h6 := fadesN_le k hk
  induction r with
  | zero =>
    intro j z M hj hz hm hg
    obtain ⟨z, rfl⟩ : ∃ y, z = y + 1 := ⟨z - 1, by omega⟩
    have : j = c := by omega
    subst this
    have hl := fadeL_ok (b := ((j * fadesN k : Nat) : Int)) (by omega) hF
    have hld := loadK_bd hk hl
    have e1 : gEv N (d + 2) 119 [.inr (.inr 82), .inl 414, .inl (p : Int), .inl (k : Int)] M = some (M, some (.inl (loadK k (fadeL ((j * fadesN k : Nat) : Int) (F p))))) := by
      have q := s_loadBy N d 414 p k _ M (by omega) (by omega) (by omega) hk hm hl.1 (fun i hi => by
        rw [hg i hi]
        exact getD_in hl hi)
      rw [gAtL_list hg] at q
      exact q
    refine ⟨M, ?_, fun _ _ _ => rfl⟩
    rw [q_X10_stepBy_13, e1, gCi_some, s_stepM N _ _ M hld.1 (by omega), gCi_some]
    simp (disch := omega) only [gInb_t, gLt_t, gLt_f, gEq_t, gEq_f, gIx_nat, gIx_id, gIf, cond_true, cond_false, gCi_some, gCv_some, gCr_some, gB01_0, gB01_1, gBi_01, gU_same, gU_off, gW_id, Int.toNat_natCast, Int.toNat_add, Int.toNat_mul, Int.reduceToNat, Nat.add_zero, Int.add_zero]
    rfl
  | succ r ih =>
    intro j z M hj hz hm hg
    obtain ⟨z, rfl⟩ : ∃ y, z = y + 1 := ⟨z - 1, by omega⟩
    have hl := fadeL_ok (b := ((j * fadesN k : Nat) : Int)) (by omega) hF
    obtain ⟨M1, f1, f2, f3, f4⟩ := s_mfade N (d + 1) 414 p ((fadesN k : Nat) : Int) (fadeL ((j * fadesN k : Nat) : Int) (F p)) M (by omega) (by omega) (by omega) (by omega) hl.1 hm hl.2 hg
    have e : fadeL ((fadesN k : Nat) : Int) (fadeL ((j * fadesN k : Nat) : Int) (F p)) = fadeL (((j + 1) * fadesN k : Nat) : Int) (F p) := by
      rw [fadeL_add (by omega)]
      congr 1
      rw [Nat.add_mul, Nat.one_mul]
      omega
    rw [e] at f2 f3
    obtain ⟨M2, g1, g2⟩ := ih (j + 1) z M1 (by omega) (by omega) f2 f3
    have f1' : gEv N (d + 2) 123 [.inr (.inr 82), .inl 414, .inl (p : Int), .inl ((fadesN k : Nat) : Int)] M = some (M1, none) := f1
    refine ⟨M2, ?_, fun q i hq => (g2 q i hq).trans (f4 q i (by omega))⟩
    rw [q_X10_stepBy_13, s_mfades N _ k M hk, gCi_some, f1', gCv_some, cast_1 j, g1]
    simp (disch := omega) only [gInb_t, gLt_t, gLt_f, gEq_t, gEq_f, gIx_nat, gIx_id, gIf, cond_true, cond_false, gCi_some, gCv_some, gCr_some, gB01_0, gB01_1, gBi_01, gU_same, gU_off, gW_id, Int.toNat_natCast, Int.toNat_add, Int.toNat_mul, Int.reduceToNat, Nat.add_zero, Int.add_zero]
theorem s_mstep (N d p n k c : Nat) (t : Int) (F : Nat → List Int) (M : gM) (hN : 100 ≤ N) (hn : n ≤ 7) (hp : p < n) (hk : k < 5) (hc : c ≤ 12) (hF : kOk n t F) (hH : kH M n 0 t F) : ∃ M', gEv N (d + 3) 158 [.inr (.inr 82), .inl (p : Int), .inl (k : Int), .inl (c : Int)] M = some (M', some (.inl (stBy F p k c))) ∧ ∀ q i, ¬ (q = 82 ∧ 414 ≤ i) → M' q i = M q i := by
  have e : gEv N (d + 2) 114 [.inr (.inr 82), .inl 0, .inl 414, .inl 29] M = some (gCp M 82 0 82 414 29, none) := s_copyRow N (d + 1) 0 414 29 M (by omega) (by omega) (by omega) (by omega)
  obtain ⟨h1, h2⟩ := (kCp_row (b := 414) hH hF.2.2 hn 29 (by omega)).2 p hp
  have hz : fadeL ((0 * fadesN k : Nat) : Int) (F p) = F p := by
    rw [Nat.zero_mul]
    exact fadeL_zero _ (hF.2.2 p hp).2
  obtain ⟨M', g1, g2⟩ := l_mstep N d p n k c F (by omega) hn hp hk hc (hF.2.2 p hp) c 0 N (gCp M 82 0 82 414 29) (by omega) (by omega) (by rw [hz]; exact h1) (by rw [hz]; exact h2)
  refine ⟨M', ?_, fun q i hq => (g2 q i hq).trans (gCp_off (by omega))⟩
  rw [q_X10_stepBy, e, gCv_some]
  exact g1
theorem l_m50 (N d p n k s : Nat) (t : Int) (F : Nat → List Int) (W Ln St : Nat → Int) (x2 x3 x4 x5 : Int) (M0 : gM) (hN : 100 ≤ N) (hn : n ≤ 7) (hp : p < n) (hk : k < 5) (hs : s ≤ 6) (hF : kOk n t F) (hH : kH M0 n 0 t F) (h54 : M0 81 5 = (s : Int)) (hW : ∀ j, j < s → M0 85 j = W j ∧ rng (W j) ∧ M0 86 j = Ln j ∧ 0 ≤ Ln j ∧ Ln j ≤ 12 ∧ M0 87 j = St j ∧ rng (St j)) : ∀ (r j z a b : Nat) (M : gM), j + r = s → r < z → a ≤ j → b ≤ j → (∀ q i, ¬ (q = 82 ∧ 414 ≤ i) → M q i = M0 q i) → ∃ z' M', z ≤ z' + r + 1 ∧ L_X10_kinds_50 (gEv N (d + 3)) z (p : Int) x2 x3 x4 x5 (k : Int) (a : Int) (b : Int) (j : Int) M = L_X10_kinds_129 (gEv N (d + 3)) z' (p : Int) x2 x3 x4 x5 (k : Int) ((a + cB (isHis W p) j r : Nat) : Int) ((b + cB (isSo F W Ln St p k) j r : Nat) : Int) (s : Int) (cond (decide (a + cB (isHis W p) j r = b + cB (isSo F W Ln St p k) j r)) (gShl 1 (k : Int)) 0) x3 M' ∧ ∀ q i, ¬ (q = 82 ∧ 414 ≤ i) → M' q i = M0 q i := by
  intro r
  induction r with
  | zero =>
    intro j z a b M hj hz ha hb hf
    obtain ⟨z, rfl⟩ : ∃ y, z = y + 1 := ⟨z - 1, by omega⟩
    have : j = s := by omega
    subst this
    refine ⟨z, M, by omega, ?_, hf⟩
    rw [q_X10_kinds_50, hf _ _ (by omega), h54]
    by_cases h : a = b
    · have h' : decide (a + cB (isHis W p) j 0 = b + cB (isSo F W Ln St p k) j 0) = true := decide_eq_true h
      rw [h']
      simp only [cB, Nat.add_zero]
      simp (disch := omega) only [gInb_t, gLt_t, gLt_f, gEq_t, gEq_f, gIx_nat, gIx_id, gIf, cond_true, cond_false, gCi_some, gCv_some, gCr_some, gB01_0, gB01_1, gBi_01, gU_same, gU_off, gW_id, Int.toNat_natCast, Int.toNat_add, Int.toNat_mul, Int.reduceToNat, Nat.add_zero, Int.add_zero]
    · have h' : decide (a + cB (isHis W p) j 0 = b + cB (isSo F W Ln St p k) j 0) = false := decide_eq_false h
      rw [h']
      simp only [cB, Nat.add_zero]
      simp (disch := omega) only [gInb_t, gLt_t, gLt_f, gEq_t, gEq_f, gIx_nat, gIx_id, gIf, cond_true, cond_false, gCi_some, gCv_some, gCr_some, gB01_0, gB01_1, gBi_01, gU_same, gU_off, gW_id, Int.toNat_natCast, Int.toNat_add, Int.toNat_mul, Int.reduceToNat, Nat.add_zero, Int.add_zero]
  | succ r ih =>
    intro j z a b M hj hz ha hb hf
    obtain ⟨z, rfl⟩ : ∃ y, z = y + 1 := ⟨z - 1, by omega⟩
    obtain ⟨w1, ⟨w2, w3⟩, w4, w5, w6, w7, ⟨w8, w9⟩⟩ := hW j (by omega)
    obtain ⟨c, hc⟩ : ∃ c : Nat, Ln j = (c : Int) := ⟨(Ln j).toNat, by omega⟩
    have hld := loadK_bd hk (fadeL_ok (b := ((c * fadesN k : Nat) : Int)) (by omega) (hF.2.2 p hp))
    have hst : 0 ≤ stBy F p k c ∧ stBy F p k c ≤ 9 := stepK_bd hld.1
    by_cases h : W j = (p : Int)
    · obtain ⟨M1, f1, f2⟩ := s_mstep N d p n k c t F M hN hn hp hk (by omega) hF (kH_fr hH hF.2.2 hn (fun i h1 h2 => hf _ _ (by omega)))
      have hf1 : ∀ q i, ¬ (q = 82 ∧ 414 ≤ i) → M1 q i = M0 q i := fun q i hq => (f2 q i hq).trans (hf q i hq)
      by_cases h2 : stBy F p k c = St j
      · obtain ⟨z', M', g1, g2, g3⟩ := ih (j + 1) z (a + 1) (b + 1) M1 (by omega) (by omega) (by omega) (by omega) hf1
        refine ⟨z', M', by omega, ?_, g3⟩
        have e1 : isHis W p j = true := decide_eq_true h
        have e2 : isSo F W Ln St p k j = true := by simp only [isSo]; rw [hc, Int.toNat_natCast, decide_eq_true h, decide_eq_true h2]; rfl
        simp only [cB, e1, e2, cond_true]
        rw [show a + (1 + cB (isHis W p) (j + 1) r) = a + 1 + cB (isHis W p) (j + 1) r by omega, show b + (1 + cB (isSo F W Ln St p k) (j + 1) r) = b + 1 + cB (isSo F W Ln St p k) (j + 1) r by omega, ← g2]
        rw [q_X10_kinds_50, hf 81 5 (by omega), h54, gIx_e (x := (j : Int)) (n := j) rfl (by omega), hf 85 _ (by omega), w1, hf 86 _ (by omega), w4, hc, f1, gCi_some, hf1 87 _ (by omega), w7, cast_1 j, cast_1 a, cast_1 b]
        simp (disch := omega) only [gInb_t, gLt_t, gLt_f, gEq_t, gEq_f, gIx_nat, gIx_id, gIf, cond_true, cond_false, gCi_some, gCv_some, gCr_some, gB01_0, gB01_1, gBi_01, gU_same, gU_off, gW_id, Int.toNat_natCast, Int.toNat_add, Int.toNat_mul, Int.reduceToNat, Nat.add_zero, Int.add_zero]
      · obtain ⟨z', M', g1, g2, g3⟩ := ih (j + 1) z (a + 1) b M1 (by omega) (by omega) (by omega) (by omega) hf1
        refine ⟨z', M', by omega, ?_, g3⟩
        have e1 : isHis W p j = true := decide_eq_true h
        have e2 : isSo F W Ln St p k j = false := by simp only [isSo]; rw [hc, Int.toNat_natCast, decide_eq_true h, decide_eq_false h2]; rfl
        simp only [cB, e1, e2, cond_true, cond_false, Nat.zero_add]
        rw [show a + (1 + cB (isHis W p) (j + 1) r) = a + 1 + cB (isHis W p) (j + 1) r by omega, ← g2]
        rw [q_X10_kinds_50, hf 81 5 (by omega), h54, gIx_e (x := (j : Int)) (n := j) rfl (by omega), hf 85 _ (by omega), w1, hf 86 _ (by omega), w4, hc, f1, gCi_some, hf1 87 _ (by omega), w7, cast_1 j, cast_1 a]
        simp (disch := omega) only [gInb_t, gLt_t, gLt_f, gEq_t, gEq_f, gIx_nat, gIx_id, gIf, cond_true, cond_false, gCi_some, gCv_some, gCr_some, gB01_0, gB01_1, gBi_01, gU_same, gU_off, gW_id, Int.toNat_natCast, Int.toNat_add, Int.toNat_mul, Int.reduceToNat, Nat.add_zero, Int.add_zero]
    · obtain ⟨z', M', g1, g2, g3⟩ := ih (j + 1) z a b M (by omega) (by omega) (by omega) (by omega) hf
      refine ⟨z', M', by omega, ?_, g3⟩
      have e1 : isHis W p j = false := decide_eq_false h
      have e2 : isSo F W Ln St p k j = false := by simp only [isSo]; rw [decide_eq_false h]; rfl
      simp only [cB, e1, e2, cond_false, Nat.zero_add]
      rw [← g2]
      rw [q_X10_kinds_50, hf 81 5 (by omega), h54, gIx_e (x := (j : Int)) (n := j) rfl (by omega), hf 85 _ (by omega), w1, cast_1 j]
      simp (disch := omega) only [gInb_t, gLt_t, gLt_f, gEq_t, gEq_f, gIx_nat, gIx_id, gIf, cond_true, cond_false, gCi_some, gCv_some, gCr_some, gB01_0, gB01_1, gBi_01, gU_same, gU_off, gW_id, Int.toNat_natCast, Int.toNat_add, Int.toNat_mul, Int.reduceToNat, Nat.add_zero, Int.add_zero]
theorem gOr_rng (x y : Int) : rng (gOr x y) := ⟨Int32.le_toInt _, Int32.toInt_lt _⟩
theorem gOr_zero {x : Int} (h : rng x) : gOr x 0 = x := by
  unfold gOr
  rw [show gI 0 = (0 : Int32) from rfl, Int32.or_zero]
  exact gW_id h.1 h.2
theorem l_m35 (N d p n s : Nat) (t w : Int) (F : Nat → List Int) (W Ln St : Nat → Int) (M0 : gM) (hN : 100 ≤ N) (hn : n ≤ 7) (hp : p < n) (hs : s ≤ 6) (hw : rng w) (hF : kOk n t F) (hH : kH M0 n 0 t F) (h54 : M0 81 5 = (s : Int)) (hW : ∀ j, j < s → M0 85 j = W j ∧ rng (W j) ∧ M0 86 j = Ln j ∧ 0 ≤ Ln j ∧ Ln j ≤ 12 ∧ M0 87 j = St j ∧ rng (St j)) : ∀ (r k z i : Nat) (x v y : Int) (M : gM), k + r = 5 → 20 * r < z → rng x → ((k = 0 ∧ v = -1 ∧ y = -1) ∨ (1 ≤ k ∧ i < k ∧ v = (i : Int) ∧ y = ((cB (isSo F W Ln St p i) 0 s : Nat) : Int))) → (∀ q i, ¬ (q = 82 ∧ 414 ≤ i) → M q i = M0 q i) → ∃ M', L_X10_kinds_35 (gEv N (d + 3)) z (p : Int) w x v y (k : Int) M = some (M', some (.inl (if w = 0 then setF (fun k => decide (cB (isSo F W Ln St p k) 0 s = cB (isHis W p) 0 s)) k x r else cond (k == 0) ((gIdx (fun k => ((cB (isSo F W Ln St p k) 0 s : Nat) : Int)) 1 0 (r - 1) : Nat) : Int) ((gIdx (fun k => ((cB (isSo F W Ln St p k) 0 s : Nat) : Int)) k i r : Nat) : Int)))) ∧ ∀ q i, ¬ (q = 82 ∧ 414 ≤ i) → M' q i = M0 q i := by
  obtain ⟨w1, w2⟩ := hw
  intro r
  induction r with
  | zero =>
    intro k z i x v y M hk hz hx hi hf
    obtain ⟨z, rfl⟩ : ∃ y, z = y + 1 := ⟨z - 1, by omega⟩
    have hi2 : v = (i : Int) := by omega
    have hk0 : (k == 0) = false := by simp; omega
    refine ⟨M, ?_, hf⟩
    rw [q_X10_kinds_35, hk0]
    simp only [setF, gIdx, cond_false]
    by_cases h : w = 0
    · rw [if_pos h]; simp (disch := omega) only [gInb_t, gLt_t, gLt_f, gEq_t, gEq_f, gIx_nat, gIx_id, gIf, cond_true, cond_false, gCi_some, gCv_some, gCr_some, gB01_0, gB01_1, gBi_01, gU_same, gU_off, gW_id, Int.toNat_natCast, Int.toNat_add, Int.toNat_mul, Int.reduceToNat, Nat.add_zero, Int.add_zero]
    · rw [if_neg h, hi2]; simp (disch := omega) only [gInb_t, gLt_t, gLt_f, gEq_t, gEq_f, gIx_nat, gIx_id, gIf, cond_true, cond_false, gCi_some, gCv_some, gCr_some, gB01_0, gB01_1, gBi_01, gU_same, gU_off, gW_id, Int.toNat_natCast, Int.toNat_add, Int.toNat_mul, Int.reduceToNat, Nat.add_zero, Int.add_zero]
  | succ r ih =>
    intro k z i x v y M hk hz hx hi hf
    obtain ⟨z, rfl⟩ : ∃ y, z = y + 1 := ⟨z - 1, by omega⟩
    have b1 := cB_le (isSo F W Ln St p k) s 0
    have b2 := cB_le (isHis W p) s 0
    obtain ⟨z', M1, g1, g2, g3⟩ := l_m50 N d p n k s t F W Ln St w x v y M0 hN hn hp (by omega) hs hF hH h54 hW s 0 z 0 0 M (by omega) (by omega) (by omega) (by omega) hf
    rw [Nat.zero_add, Nat.zero_add] at g2
    obtain ⟨z', rfl⟩ : ∃ y, z' = y + 1 := ⟨z' - 1, by omega⟩
    have hset : ∀ b : Bool, gOr x (cond b (gShl 1 (k : Int)) 0) = cond b (gOr x (gShl 1 (k : Int))) x := fun b => by
      cases b
      · exact gOr_zero hx
      · rfl
    have hset2 : rng (cond (decide (cB (isSo F W Ln St p k) 0 s = cB (isHis W p) 0 s)) (gOr x (gShl 1 (k : Int))) x) := by
      cases decide (cB (isSo F W Ln St p k) 0 s = cB (isHis W p) 0 s)
      · exact hx
      · exact gOr_rng _ _
    have hcomm : decide (cB (isHis W p) 0 s = cB (isSo F W Ln St p k) 0 s) = decide (cB (isSo F W Ln St p k) 0 s = cB (isHis W p) 0 s) := by simp only [eq_comm]
    have e35 : L_X10_kinds_35 (gEv N (d + 3)) (z + 1) (p : Int) w x v y (k : Int) M = L_X10_kinds_129 (gEv N (d + 3)) (z' + 1) (p : Int) w x v y (k : Int) ((cB (isHis W p) 0 s : Nat) : Int) ((cB (isSo F W Ln St p k) 0 s : Nat) : Int) (s : Int) (cond (decide (cB (isSo F W Ln St p k) 0 s = cB (isHis W p) 0 s)) (gShl 1 (k : Int)) 0) x M1 := by
      rw [← hcomm, ← g2, q_X10_kinds_35]
      simp (disch := omega) only [gInb_t, gLt_t, gLt_f, gEq_t, gEq_f, gIx_nat, gIx_id, gIf, cond_true, cond_false, gCi_some, gCv_some, gCr_some, gB01_0, gB01_1, gBi_01, gU_same, gU_off, gW_id, Int.toNat_natCast, Int.toNat_add, Int.toNat_mul, Int.reduceToNat, Nat.add_zero, Int.add_zero]
      rfl
    rw [e35, q_X10_kinds_129, hset, cast_1 k]
    by_cases hk0 : k = 0
    · subst hk0
      have hv : v = -1 ∧ y = -1 := by omega
      obtain ⟨M2, f1, f2⟩ := ih 1 z' 0 (cond (decide (cB (isSo F W Ln St p 0) 0 s = cB (isHis W p) 0 s)) (gOr x (gShl 1 ((0 : Nat) : Int))) x) ((0 : Nat) : Int) ((cB (isSo F W Ln St p 0) 0 s : Nat) : Int) M1 (by omega) (by omega) hset2 (Or.inr ⟨by omega, by omega, rfl, rfl⟩) g3
      refine ⟨M2, ?_, f2⟩
      rw [hv.2, gLt_t (by omega) (by omega) (by omega), cond_true, cond_true, f1]
      simp only [setF, Nat.add_sub_cancel]
      rfl
    · have hk1 : (k == 0) = false := by simpa using hk0
      have hk2 : (k + 1 == 0) = false := by simp
      obtain ⟨q1, q2, q3, q4⟩ : 1 ≤ k ∧ i < k ∧ v = (i : Int) ∧ y = ((cB (isSo F W Ln St p i) 0 s : Nat) : Int) := by
        rcases hi with hi | hi
        · omega
        · exact hi
      have b3 := cB_le (isSo F W Ln St p i) s 0
      rw [hk1, q4, q3]
      simp only [setF, gIdx, cond_false]
      by_cases h : ((cB (isSo F W Ln St p i) 0 s : Nat) : Int) < ((cB (isSo F W Ln St p k) 0 s : Nat) : Int)
      · obtain ⟨M2, f1, f2⟩ := ih (k + 1) z' k (cond (decide (cB (isSo F W Ln St p k) 0 s = cB (isHis W p) 0 s)) (gOr x (gShl 1 (k : Int))) x) (k : Int) ((cB (isSo F W Ln St p k) 0 s : Nat) : Int) M1 (by omega) (by omega) hset2 (Or.inr ⟨by omega, by omega, rfl, rfl⟩) g3
        refine ⟨M2, ?_, f2⟩
        rw [gLt_t h (by omega) (by omega), cond_true, cond_true, f1, hk2, if_pos h]
        rfl
      · obtain ⟨M2, f1, f2⟩ := ih (k + 1) z' i (cond (decide (cB (isSo F W Ln St p k) 0 s = cB (isHis W p) 0 s)) (gOr x (gShl 1 (k : Int))) x) (i : Int) ((cB (isSo F W Ln St p i) 0 s : Nat) : Int) M1 (by omega) (by omega) hset2 (Or.inr ⟨by omega, by omega, rfl, rfl⟩) g3
        refine ⟨M2, ?_, f2⟩
        rw [gLt_f (by omega) (by omega) (by omega), cond_false, cond_false, f1, hk2, if_neg h]
        rfl
theorem p_kinds (N d : Nat) (a w : Int) (M : gM) (hN : 100000 ≤ N) (hI : kInv M) (ha : rng a) (hwr : rng w) : kPair N (d + 20) 79 159 [.inl a, .inl w] M := by
  obtain ⟨n, K, t, F, G, c, A, B, c', A', B', l, s, h⟩ := id hI
  obtain ⟨hP, hW, hT, hQ, hQ', hX, hU, hKp, hS, hD, hw, hz⟩ := id h
  have hn := hP.1
  have h6 := hP.2.1
  have m29 := hP.2.2.1
  have hKx := iPpl_kx hP
  have hKm := iPpl_km hP
  obtain ⟨hOk, hG8, hH0⟩ := id hW
  obtain ⟨s1, s2, s3, s4⟩ := id hS
  have c1 := q_X9_kinds N (d + 19) a w M
  rw [s_xhas _ _ n _ _ hn h6 ha, gCi_some, s_xin N _ w 0 1 M hwr (rng_c (by omega) (by omega)) (rng_c (by omega) (by omega)), gCi_some] at c1
  have c2 := q_X10_kinds N (d + 19) a w M
  rw [s_mhas _ _ n _ _ hn m29 ha, gCi_some, s_min N _ w 0 1 (((0 : Nat) : Int)) (((1 : Nat) : Int)) M hwr (rng_c (by omega) (by omega)) (rng_c (by omega) (by omega)) rfl rfl, gCi_some] at c2
  by_cases hp : 0 ≤ a ∧ a < (n : Int)
  · rw [decide_eq_true hp] at c1 c2
    by_cases h0 : 0 ≤ w ∧ w ≤ 1
    · rw [decide_eq_true h0] at c1 c2
      obtain ⟨p, rfl⟩ : ∃ p : Nat, a = (p : Int) := ⟨a.toNat, by omega⟩
      have hpn : p < n := by omega
      have hWx : ∀ j, j < s → M 55 j = M 55 j ∧ rng (M 55 j) ∧ M 56 j = M 56 j ∧ 0 ≤ M 56 j ∧ M 56 j ≤ 12 ∧ M 57 j = M 57 j ∧ rng (M 57 j) := fun j hj => by
        obtain ⟨u1, u2, u3, u4, u5, u6, u7, u8, u9⟩ := s4 j hj
        exact ⟨rfl, (rng_c (by omega) (by omega)), rfl, u3, u4, rfl, (rng_c (by omega) (by omega))⟩
      have hWm : ∀ j, j < s → M 85 j = M 55 j ∧ rng (M 55 j) ∧ M 86 j = M 56 j ∧ 0 ≤ M 56 j ∧ M 56 j ≤ 12 ∧ M 87 j = M 57 j ∧ rng (M 57 j) := fun j hj => by
        obtain ⟨u1, u2, u3, u4, u5, u6, u7, u8, u9⟩ := s4 j hj
        exact ⟨u7, (rng_c (by omega) (by omega)), u8, u3, u4, u9, (rng_c (by omega) (by omega))⟩
      have hso : ∀ k : Nat, k < 5 → ∀ d : Nat, gEv N (d + 3) 37 [.inr (.inr 55), .inl (p : Int), .inl (k : Int), .inr (.inr 9)] M = some (M, some (.inl ((cB (isSo F (fun j => M 55 j) (fun j => M 56 j) (fun j => M 57 j) p k) 0 s : Nat) : Int))) := fun k hk d => by
        have q := l_xso N d p n k s t F (fun j => M 55 j) (fun j => M 56 j) (fun j => M 57 j) M (by omega) hn hpn hk s1 hOk hG8 s2 hWx s 0 N 0 (by omega) (by omega)
        rw [Nat.zero_add] at q
        exact (q_X6_howManySo N (d + 2) (p : Int) (k : Int) M).trans q
      have hof : gEv N (d + 18) 36 [.inr (.inr 55), .inl (p : Int)] M = some (M, some (.inl ((cB (isHis (fun j => M 55 j) p) 0 s : Nat) : Int))) := by
        have q := l_xof (gEv N (d + 17)) p s (fun j => M 55 j) M (by omega) s1 s2 (fun j hj => ⟨rfl, (hWx j hj).2.1⟩) s 0 N 0 (by omega) (by omega)
        rw [Nat.zero_add] at q
        exact (q_X6_howManyOf N (d + 17) (p : Int) M).trans q
      have hbs : ∀ k, cB (isSo F (fun j => M 55 j) (fun j => M 56 j) (fun j => M 57 j) p k) 0 s ≤ 6 := fun k => Nat.le_trans (cB_le _ s 0) s1
      have hbo : cB (isHis (fun j => M 55 j) p) 0 s ≤ 6 := Nat.le_trans (cB_le _ s 0) s1
      obtain ⟨M', g1, g2⟩ := l_m35 N (d + 16) p n s t w F (fun j => M 55 j) (fun j => M 56 j) (fun j => M 57 j) M (by omega) hn hpn s1 hwr hOk hH0 s3 hWm 5 0 N 0 0 (-1) (-1) M (by omega) (by omega) (rng_c (by omega) (by omega)) (Or.inl ⟨rfl, rfl, rfl⟩) (fun _ _ _ => rfl)
      have g1' : L_X10_kinds_35 (gEv N (d + 19)) N (p : Int) w 0 (-1) (-1) 0 M = _ := g1
      rw [g1'] at c2
      have hscr : ∀ q i, ¬ kScr q i → M' q i = M q i := fun q i hq => g2 q i (by unfold kScr at hq; omega)
      by_cases h2 : w = 0
      · have lx : gEv N (d + 19) 34 [.inr (.inr 55), .inl (p : Int), .inr (.inr 9)] M = _ := (q_X6_possibleKinds N (d + 18) (p : Int) M).trans (l_xposs (gEv N (d + 18)) p (fun k => cB (isSo F (fun j => M 55 j) (fun j => M 56 j) (fun j => M 57 j) p k) 0 s) _ M hbo hbs (fun k hk => hso k hk (d + 15)) hof 5 0 N 0 (by omega) (by omega))
        rw [if_pos h2] at c2
        refine kPair_sc (setF (fun k => decide (cB (isSo F (fun j => M 55 j) (fun j => M 56 j) (fun j => M 57 j) p k) 0 s = cB (isHis (fun j => M 55 j) p) 0 s)) 0 0 5) hI (c1.trans ?_) (c2.trans ?_) (fun _ _ _ => rfl) hscr
        · rw [lx]; simp (disch := omega) only [gInb_t, gLt_t, gLt_f, gEq_t, gEq_f, gIx_nat, gIx_id, gIf, cond_true, cond_false, gCi_some, gCv_some, gCr_some, gB01_0, gB01_1, gBi_01, gU_same, gU_off, gW_id, Int.toNat_natCast, Int.toNat_add, Int.toNat_mul, Int.reduceToNat, Nat.add_zero, Int.add_zero, bI_eq0, bI_B, Bool.not_true, Bool.not_false, bI_t, bI_f]
        · simp (disch := omega) only [gInb_t, gLt_t, gLt_f, gEq_t, gEq_f, gIx_nat, gIx_id, gIf, cond_true, cond_false, gCi_some, gCv_some, gCr_some, gB01_0, gB01_1, gBi_01, gU_same, gU_off, gW_id, Int.toNat_natCast, Int.toNat_add, Int.toNat_mul, Int.reduceToNat, Nat.add_zero, Int.add_zero, bI_eq0, bI_B, Bool.not_true, Bool.not_false, bI_t, bI_f]
      · have lx : gEv N (d + 19) 35 [.inr (.inr 55), .inl (p : Int), .inr (.inr 9)] M = _ := (q_X6_likeliestKind N (d + 18) (p : Int) M).trans (l_xlike (gEv N (d + 18)) p (fun k => cB (isSo F (fun j => M 55 j) (fun j => M 56 j) (fun j => M 57 j) p k) 0 s) M hbs (fun k hk => hso k hk (d + 15)) 4 1 0 N (by omega) (by omega) (by omega))
        rw [if_neg h2] at c2
        refine kPair_sc ((gIdx (fun k => ((cB (isSo F (fun j => M 55 j) (fun j => M 56 j) (fun j => M 57 j) p k) 0 s : Nat) : Int)) 1 0 4 : Nat) : Int) hI (c1.trans ?_) (c2.trans ?_) (fun _ _ _ => rfl) hscr
        · rw [lx]; simp (disch := omega) only [gInb_t, gLt_t, gLt_f, gEq_t, gEq_f, gIx_nat, gIx_id, gIf, cond_true, cond_false, gCi_some, gCv_some, gCr_some, gB01_0, gB01_1, gBi_01, gU_same, gU_off, gW_id, Int.toNat_natCast, Int.toNat_add, Int.toNat_mul, Int.reduceToNat, Nat.add_zero, Int.add_zero, bI_eq0, bI_B, Bool.not_true, Bool.not_false, bI_t, bI_f]
        · simp (disch := omega) only [gInb_t, gLt_t, gLt_f, gEq_t, gEq_f, gIx_nat, gIx_id, gIf, cond_true, cond_false, gCi_some, gCv_some, gCr_some, gB01_0, gB01_1, gBi_01, gU_same, gU_off, gW_id, Int.toNat_natCast, Int.toNat_add, Int.toNat_mul, Int.reduceToNat, Nat.add_zero, Int.add_zero, bI_eq0, bI_B, Bool.not_true, Bool.not_false, bI_t, bI_f]
          rfl
    · rw [decide_eq_false h0] at c1 c2
      refine kPair_ro (-3) hI (c1.trans ?_) (c2.trans ?_)
      · simp (disch := omega) only [gInb_t, gLt_t, gLt_f, gEq_t, gEq_f, gIx_nat, gIx_id, gIf, cond_true, cond_false, gCi_some, gCv_some, gCr_some, gB01_0, gB01_1, gBi_01, gU_same, gU_off, gW_id, Int.toNat_natCast, Int.toNat_add, Int.toNat_mul, Int.reduceToNat, Nat.add_zero, Int.add_zero, bI_eq0, bI_B, Bool.not_true, Bool.not_false, bI_t, bI_f]
      · simp (disch := omega) only [gInb_t, gLt_t, gLt_f, gEq_t, gEq_f, gIx_nat, gIx_id, gIf, cond_true, cond_false, gCi_some, gCv_some, gCr_some, gB01_0, gB01_1, gBi_01, gU_same, gU_off, gW_id, Int.toNat_natCast, Int.toNat_add, Int.toNat_mul, Int.reduceToNat, Nat.add_zero, Int.add_zero, bI_eq0, bI_B, Bool.not_true, Bool.not_false, bI_t, bI_f]
  · rw [decide_eq_false hp] at c1 c2
    refine kPair_ro (-2) hI (c1.trans ?_) (c2.trans ?_)
    · simp (disch := omega) only [gInb_t, gLt_t, gLt_f, gEq_t, gEq_f, gIx_nat, gIx_id, gIf, cond_true, cond_false, gCi_some, gCv_some, gCr_some, gB01_0, gB01_1, gBi_01, gU_same, gU_off, gW_id, Int.toNat_natCast, Int.toNat_add, Int.toNat_mul, Int.reduceToNat, Nat.add_zero, Int.add_zero, bI_eq0, bI_B, Bool.not_true, Bool.not_false, bI_t, bI_f]
    · simp (disch := omega) only [gInb_t, gLt_t, gLt_f, gEq_t, gEq_f, gIx_nat, gIx_id, gIf, cond_true, cond_false, gCi_some, gCv_some, gCr_some, gB01_0, gB01_1, gBi_01, gU_same, gU_off, gW_id, Int.toNat_natCast, Int.toNat_add, Int.toNat_mul, Int.reduceToNat, Nat.add_zero, Int.add_zero, bI_eq0, bI_B, Bool.not_true, Bool.not_false, bI_t, bI_f]
