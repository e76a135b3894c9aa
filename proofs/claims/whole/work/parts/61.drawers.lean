-- 61: drawers: drawer, put, take, drop
theorem dPl {e : Nat} (he : e < 4) : 69 + 3 * e = 69 ∨ 69 + 3 * e = 72 ∨ 69 + 3 * e = 75 ∨ 69 + 3 * e = 78 := by omega
theorem s_xdr (N d : Nat) (a : Int) (M : gM) (ha : rng a) : gEv N (d + 2) 92 [.inl a] M = some (M, some (.inl (bI (decide (0 ≤ a ∧ a ≤ 3))))) := by
  rw [s_isDrawerX N d a M ha, gBi_bI]
theorem s_mdr (N d : Nat) (a : Int) (M : gM) (ha : rng a) : gEv N (d + 2) 160 [.inl a] M = some (M, some (.inl (bI (decide (0 ≤ a ∧ a ≤ 3))))) := by
  rw [s_isDrawerM N d a M ha, gBi_bI]
theorem l_renew (C : gCl) (e : Nat) (x1 : Int) (he : e < 4) : ∀ (r k z : Nat) (M : gM), k + r = 10 → r < z → (∀ i, i < k → M (70 + 3 * e) i = 3) → ∃ M', L_X0_renew_12 C z (69 + 3 * e) x1 (k : Int) M = some (M', none) ∧ (∀ i, i < 10 → M' (70 + 3 * e) i = 3) ∧ ∀ q i, q ≠ 70 + 3 * e → M' q i = M q i := by
  intro r
  induction r with
  | zero =>
    intro k z M hk hz h
    obtain ⟨z, rfl⟩ : ∃ y, z = y + 1 := ⟨z - 1, by omega⟩
    rw [q_X0_renew_12 _ _ _ _ _ _ (dPl he)]
    exact ⟨M, by simp (disch := omega) only [gInb_t, gLt_t, gLt_f, gEq_t, gEq_f, gIx_nat, gIx_id, gIf, cond_true, cond_false, gCi_some, gCv_some, gCr_some, gB01_0, gB01_1, gBi_01, gU_same, gU_off, gW_id, Int.toNat_natCast, Int.toNat_add, Int.toNat_mul, Int.reduceToNat, Nat.add_zero, Int.add_zero], fun i hi => h i (by omega), fun _ _ _ => rfl⟩
  | succ r ih =>
    intro k z M hk hz h
    obtain ⟨z, rfl⟩ : ∃ y, z = y + 1 := ⟨z - 1, by omega⟩
    obtain ⟨M', e1, e2, e3⟩ := ih (k + 1) z (gU M (69 + 3 * e + 1) k 3) (by omega) (by omega) (fun i hi => by
      by_cases hik : i = k
      · subst hik
        rw [show 69 + 3 * e + 1 = 70 + 3 * e by omega, gU_same]
      · rw [gU_off _ _ (by omega)]
        exact h i (by omega))
    refine ⟨M', ?_, e2, fun q i hq => (e3 q i hq).trans (gU_off _ _ (by omega))⟩
    rw [q_X0_renew_12 _ _ _ _ _ _ (dPl he), gIx_e (x := (k : Int)) (n := k) rfl (by omega), cast_1 k, e1]
    simp (disch := omega) only [gInb_t, gLt_t, gLt_f, gEq_t, gEq_f, gIx_nat, gIx_id, gIf, cond_true, cond_false, gCi_some, gCv_some, gCr_some, gB01_0, gB01_1, gBi_01, gU_same, gU_off, gW_id, Int.toNat_natCast, Int.toNat_add, Int.toNat_mul, Int.reduceToNat, Nat.add_zero, Int.add_zero]
theorem l_mdraw (C : gCl) (e : Nat) (x2 : Int) (he : e < 4) : ∀ (r k z : Nat) (M : gM), k + r = 10 → r < z → (∀ i, i < k → M 89 (10 * e + i) = -1) → ∃ M', L_X10_drawer_35 C z (e : Int) x2 (k : Int) M = some (M', some (.inl x2)) ∧ (∀ i, i < 10 → M' 89 (10 * e + i) = -1) ∧ ∀ q i, ¬ (q = 89 ∧ 10 * e ≤ i ∧ i < 10 * e + 10) → M' q i = M q i := by
  intro r
  induction r with
  | zero =>
    intro k z M hk hz h
    obtain ⟨z, rfl⟩ : ∃ y, z = y + 1 := ⟨z - 1, by omega⟩
    rw [q_X10_drawer_35]
    exact ⟨M, by simp (disch := omega) only [gInb_t, gLt_t, gLt_f, gEq_t, gEq_f, gIx_nat, gIx_id, gIf, cond_true, cond_false, gCi_some, gCv_some, gCr_some, gB01_0, gB01_1, gBi_01, gU_same, gU_off, gW_id, Int.toNat_natCast, Int.toNat_add, Int.toNat_mul, Int.reduceToNat, Nat.add_zero, Int.add_zero], fun i hi => h i (by omega), fun _ _ _ => rfl⟩
  | succ r ih =>
    intro k z M hk hz h
    obtain ⟨z, rfl⟩ : ∃ y, z = y + 1 := ⟨z - 1, by omega⟩
    obtain ⟨M', e1, e2, e3⟩ := ih (k + 1) z (gU M 89 (10 * e + k) (-1)) (by omega) (by omega) (fun i hi => by
      by_cases hik : i = k
      · subst hik
        rw [gU_same]
      · rw [gU_off _ _ (by omega)]
        exact h i (by omega))
    refine ⟨M', ?_, e2, fun q i hq => (e3 q i hq).trans (gU_off _ _ (by omega))⟩
    rw [q_X10_drawer_35, gIx_e (x := (10 * (e : Int)) + (k : Int)) (n := 10 * e + k) (by omega) (by omega), cast_1 k, e1]
    simp (disch := omega) only [gInb_t, gLt_t, gLt_f, gEq_t, gEq_f, gIx_nat, gIx_id, gIf, cond_true, cond_false, gCi_some, gCv_some, gCr_some, gB01_0, gB01_1, gBi_01, gU_same, gU_off, gW_id, Int.toNat_natCast, Int.toNat_add, Int.toNat_mul, Int.reduceToNat, Nat.add_zero, Int.add_zero]
/-- one drawer has changed -/
theorem iDrs_one {M M' : gM} {n e : Nat} (he : e < 4) (h : iDrs M n) (h1 : iDr M' n e) (f : ∀ q i, ¬ ((69 + 3 * e ≤ q ∧ q ≤ 71 + 3 * e) ∨ (q = 88 ∧ i = e) ∨ ((q = 89 ∨ q = 90) ∧ 10 * e ≤ i ∧ i < 10 * e + 10)) → (69 ≤ q ∧ q < 81) ∨ (88 ≤ q ∧ q < 91) → M' q i = M q i) : iDrs M' n := fun d hd => by
  by_cases hde : d = e
  · subst hde; exact h1
  · exact iDr_fr hd (h d hd) (fun q i hq => f q i (by omega) (by omega))
theorem p_drawer (N d : Nat) (a b : Int) (M : gM) (hN : 100000 ≤ N) (hI : kInv M) (ha : rng a) (hb : rng b) : kPair N (d + 20) 80 161 [.inl a, .inl b] M := by
  obtain ⟨n, K, t, F, G, c, A, B, c', A', B', l, s, h⟩ := id hI
  obtain ⟨hP, hW, hT, hQ, hQ', hX, hU, hKp, hS, hD, hw, hz⟩ := id h
  have hn := hP.1
  have h6 := hP.2.1
  have m29 := hP.2.2.1
  have hKx := iPpl_kx hP
  have hKm := iPpl_km hP
  obtain ⟨hOk, hG8, hH0⟩ := id hW
  obtain ⟨b1, b2⟩ := id hb
  have c1 := q_X9_drawer N (d + 19) a b M
  rw [s_xdr _ _ _ _ ha, gCi_some] at c1
  by_cases h0 : 0 ≤ a ∧ a ≤ 3
  · rw [decide_eq_true h0] at c1
    obtain ⟨e, rfl⟩ : ∃ e : Nat, a = (e : Int) := ⟨a.toNat, by omega⟩
    have he : e < 4 := by omega
    by_cases h1 : b ≤ 10
    · by_cases h2 : 0 ≤ b
      · obtain ⟨k, rfl⟩ : ∃ k : Nat, b = (k : Int) := ⟨b.toNat, by omega⟩
        obtain ⟨Mb, b1, b2, b3⟩ := l_renew (gEv N (d + 18)) e (k : Int) he 10 0 N (gU (gU M (69 + 3 * e) 0 1) (69 + 3 * e) 1 (k : Int)) (by omega) (by omega) (fun i hi => absurd hi (Nat.not_lt_zero i))
        have r1 := q_X0_renew N (d + 18) (69 + 3 * e) (k : Int) M (dPl he)
        have r2 : gEv N (d + 19) 0 [.inr (.inr (69 + 3 * e + 1)), .inl (k : Int)] M = some (Mb, none) := by
          refine r1.trans ?_
          refine Eq.trans ?_ b1
          simp (disch := omega) only [gInb_t, gLt_t, gLt_f, gEq_t, gEq_f, gIx_nat, gIx_id, gIf, cond_true, cond_false, gCi_some, gCv_some, gCr_some, gB01_0, gB01_1, gBi_01, gU_same, gU_off, gW_id, Int.toNat_natCast, Int.toNat_add, Int.toNat_mul, Int.reduceToNat, Nat.add_zero, Int.add_zero]
          rfl
        have e1 : gEv N (d + 20) 80 [.inr (.inr 1), .inl (e : Int), .inl (k : Int)] M = some (Mb, some (.inl (k : Int))) := by
          refine c1.trans ?_
          rcases (by omega : e = 0 ∨ e = 1 ∨ e = 2 ∨ e = 3) with rfl | rfl | rfl | rfl
          · have r3 : gEv N (d + 19) 0 [.inr (.inr 70), .inl (k : Int)] M = some (Mb, none) := r2
            rw [r3]; simp (disch := omega) only [gInb_t, gLt_t, gLt_f, gEq_t, gEq_f, gIx_nat, gIx_id, gIf, cond_true, cond_false, gCi_some, gCv_some, gCr_some, gB01_0, gB01_1, gBi_01, gU_same, gU_off, gW_id, Int.toNat_natCast, Int.toNat_add, Int.toNat_mul, Int.reduceToNat, Nat.add_zero, Int.add_zero, bI_eq0, bI_B, Bool.not_true, Bool.not_false, bI_t, bI_f]
          · have r3 : gEv N (d + 19) 0 [.inr (.inr 73), .inl (k : Int)] M = some (Mb, none) := r2
            rw [r3]; simp (disch := omega) only [gInb_t, gLt_t, gLt_f, gEq_t, gEq_f, gIx_nat, gIx_id, gIf, cond_true, cond_false, gCi_some, gCv_some, gCr_some, gB01_0, gB01_1, gBi_01, gU_same, gU_off, gW_id, Int.toNat_natCast, Int.toNat_add, Int.toNat_mul, Int.reduceToNat, Nat.add_zero, Int.add_zero, bI_eq0, bI_B, Bool.not_true, Bool.not_false, bI_t, bI_f]
          · have r3 : gEv N (d + 19) 0 [.inr (.inr 76), .inl (k : Int)] M = some (Mb, none) := r2
            rw [r3]; simp (disch := omega) only [gInb_t, gLt_t, gLt_f, gEq_t, gEq_f, gIx_nat, gIx_id, gIf, cond_true, cond_false, gCi_some, gCv_some, gCr_some, gB01_0, gB01_1, gBi_01, gU_same, gU_off, gW_id, Int.toNat_natCast, Int.toNat_add, Int.toNat_mul, Int.reduceToNat, Nat.add_zero, Int.add_zero, bI_eq0, bI_B, Bool.not_true, Bool.not_false, bI_t, bI_f]
          · have r3 : gEv N (d + 19) 0 [.inr (.inr 79), .inl (k : Int)] M = some (Mb, none) := r2
            rw [r3]; simp (disch := omega) only [gInb_t, gLt_t, gLt_f, gEq_t, gEq_f, gIx_nat, gIx_id, gIf, cond_true, cond_false, gCi_some, gCv_some, gCr_some, gB01_0, gB01_1, gBi_01, gU_same, gU_off, gW_id, Int.toNat_natCast, Int.toNat_add, Int.toNat_mul, Int.reduceToNat, Nat.add_zero, Int.add_zero, bI_eq0, bI_B, Bool.not_true, Bool.not_false, bI_t, bI_f]
        have fb : ∀ q i, ¬ ((q = 69 + 3 * e ∧ i < 2) ∨ q = 70 + 3 * e) → Mb q i = M q i := fun q i hq => by
          rw [b3 q i (by omega), gU_off _ _ (by omega), gU_off _ _ (by omega)]
        have g0 : Mb (69 + 3 * e) 0 = 1 := by rw [b3 _ _ (by omega), gU_off _ _ (by omega), gU_same]
        have g1 : Mb (69 + 3 * e) 1 = (k : Int) := by rw [b3 _ _ (by omega), gU_same]
        obtain ⟨Md, d1, d2, d3⟩ := l_mdraw (gEv N (d + 19)) e (k : Int) he 10 0 N (gU Mb 88 e (k : Int)) (by omega) (by omega) (fun i hi => absurd hi (Nat.not_lt_zero i))
        have c2 := q_X10_drawer N (d + 19) (e : Int) (k : Int) Mb
        have e2 : gEv N (d + 20) 161 [.inr (.inr 82), .inl (e : Int), .inl (k : Int)] Mb = some (Md, some (.inl (k : Int))) := by
          refine c2.trans ?_
          rw [s_mdr _ _ _ _ ha, gCi_some, decide_eq_true h0, gIx_e (x := (e : Int)) (n := e) rfl (by omega)]
          refine Eq.trans ?_ d1
          simp (disch := omega) only [gInb_t, gLt_t, gLt_f, gEq_t, gEq_f, gIx_nat, gIx_id, gIf, cond_true, cond_false, gCi_some, gCv_some, gCr_some, gB01_0, gB01_1, gBi_01, gU_same, gU_off, gW_id, Int.toNat_natCast, Int.toNat_add, Int.toNat_mul, Int.reduceToNat, Nat.add_zero, Int.add_zero, bI_eq0, bI_B, Bool.not_true, Bool.not_false, bI_t, bI_f]
          rfl
        have fd : ∀ q i, ¬ ((q = 88 ∧ i = e) ∨ (q = 89 ∧ 10 * e ≤ i ∧ i < 10 * e + 10)) → Md q i = Mb q i := fun q i hq => by
          rw [d3 q i (by omega), gU_off _ _ (by omega)]
        have d88 : Md 88 e = (k : Int) := by rw [d3 _ _ (by omega), gU_same]
        refine ⟨_, _, _, e1, e2, fun i => fb _ _ (by omega), fb _ _ (by omega), n, K, t, F, G, c, A, B, c', A', B', l, s, kI_drs (iDrs_one he hD ⟨?_, fun i hi => ?_⟩ (fun q i hq _ => (fd q i (by omega)).trans (fb q i (by omega)))) h (fun q i hq => (fd q i (by omega)).trans (fb q i (by omega)))⟩
        · rw [fd _ 0 (by omega), fd _ 1 (by omega), g0, g1, d88]
          exact Or.inr ⟨rfl, by omega, by omega, rfl⟩
        · have o := (hD e he).2 i hi
          rw [fd (70 + 3 * e) i (by omega), b2 i hi, d2 i hi, fd (71 + 3 * e) i (by omega), fb (71 + 3 * e) i (by omega), fd 90 (10 * e + i) (by omega), fb 90 (10 * e + i) (by omega)]
          refine ⟨by omega, by omega, by rw [if_pos rfl], o.2.2.2.1, o.2.2.2.2.1, fun _ h5 => absurd h5 (by omega)⟩
      · refine kPair_ro (-15) hI (c1.trans ?_) ?_
        · simp (disch := omega) only [gInb_t, gLt_t, gLt_f, gEq_t, gEq_f, gIx_nat, gIx_id, gIf, cond_true, cond_false, gCi_some, gCv_some, gCr_some, gB01_0, gB01_1, gBi_01, gU_same, gU_off, gW_id, Int.toNat_natCast, Int.toNat_add, Int.toNat_mul, Int.reduceToNat, Nat.add_zero, Int.add_zero, bI_eq0, bI_B, Bool.not_true, Bool.not_false, bI_t, bI_f]
        · rw [q_X10_drawer, s_mdr _ _ _ _ ha, gCi_some, decide_eq_true h0]; simp (disch := omega) only [gInb_t, gLt_t, gLt_f, gEq_t, gEq_f, gIx_nat, gIx_id, gIf, cond_true, cond_false, gCi_some, gCv_some, gCr_some, gB01_0, gB01_1, gBi_01, gU_same, gU_off, gW_id, Int.toNat_natCast, Int.toNat_add, Int.toNat_mul, Int.reduceToNat, Nat.add_zero, Int.add_zero, bI_eq0, bI_B, Bool.not_true, Bool.not_false, bI_t, bI_f]
    · refine kPair_ro (-3) hI (c1.trans ?_) ?_
      · simp (disch := omega) only [gInb_t, gLt_t, gLt_f, gEq_t, gEq_f, gIx_nat, gIx_id, gIf, cond_true, cond_false, gCi_some, gCv_some, gCr_some, gB01_0, gB01_1, gBi_01, gU_same, gU_off, gW_id, Int.toNat_natCast, Int.toNat_add, Int.toNat_mul, Int.reduceToNat, Nat.add_zero, Int.add_zero, bI_eq0, bI_B, Bool.not_true, Bool.not_false, bI_t, bI_f]
      · rw [q_X10_drawer, s_mdr _ _ _ _ ha, gCi_some, decide_eq_true h0]; simp (disch := omega) only [gInb_t, gLt_t, gLt_f, gEq_t, gEq_f, gIx_nat, gIx_id, gIf, cond_true, cond_false, gCi_some, gCv_some, gCr_some, gB01_0, gB01_1, gBi_01, gU_same, gU_off, gW_id, Int.toNat_natCast, Int.toNat_add, Int.toNat_mul, Int.reduceToNat, Nat.add_zero, Int.add_zero, bI_eq0, bI_B, Bool.not_true, Bool.not_false, bI_t, bI_f]
  · rw [decide_eq_false h0] at c1
    refine kPair_ro (-2) hI (c1.trans ?_) ?_
    · simp (disch := omega) only [gInb_t, gLt_t, gLt_f, gEq_t, gEq_f, gIx_nat, gIx_id, gIf, cond_true, cond_false, gCi_some, gCv_some, gCr_some, gB01_0, gB01_1, gBi_01, gU_same, gU_off, gW_id, Int.toNat_natCast, Int.toNat_add, Int.toNat_mul, Int.reduceToNat, Nat.add_zero, Int.add_zero, bI_eq0, bI_B, Bool.not_true, Bool.not_false, bI_t, bI_f]
    · rw [q_X10_drawer, s_mdr _ _ _ _ ha, gCi_some, decide_eq_false h0]; simp (disch := omega) only [gInb_t, gLt_t, gLt_f, gEq_t, gEq_f, gIx_nat, gIx_id, gIf, cond_true, cond_false, gCi_some, gCv_some, gCr_some, gB01_0, gB01_1, gBi_01, gU_same, gU_off, gW_id, Int.toNat_natCast, Int.toNat_add, Int.toNat_mul, Int.reduceToNat, Nat.add_zero, Int.add_zero, bI_eq0, bI_B, Bool.not_true, Bool.not_false, bI_t, bI_f]
theorem s_hasPlace (N d e : Nat) (i z : Int) (M : gM) (he : e < 4) (hi : rng i) (h1 : M (69 + 3 * e) 1 = z) (hz : 0 ≤ z ∧ z ≤ 10) : gEv N (d + 1) 1 [.inr (.inr (70 + 3 * e)), .inl i] M = some (M, some (.inl (bI (decide (0 ≤ i ∧ i < z))))) := by
  obtain ⟨i1, i2⟩ := hi
  have q := q_X0_hasPlace N d (69 + 3 * e) i M (dPl he)
  rw [show 70 + 3 * e = 69 + 3 * e + 1 by omega, q, h1]
  by_cases c1 : i < 0
  · rw [decide_eq_false (by omega)]; simp (disch := omega) only [gInb_t, gLt_t, gLt_f, gEq_t, gEq_f, gIx_nat, gIx_id, gIf, cond_true, cond_false, gCi_some, gCv_some, gCr_some, gB01_0, gB01_1, gBi_01, gU_same, gU_off, gW_id, Int.toNat_natCast, Int.toNat_add, Int.toNat_mul, Int.reduceToNat, Nat.add_zero, Int.add_zero, bI_eq0, bI_B, Bool.not_true, Bool.not_false, bI_t, bI_f]
  · by_cases c2 : i < z
    · rw [decide_eq_true (by omega)]; simp (disch := omega) only [gInb_t, gLt_t, gLt_f, gEq_t, gEq_f, gIx_nat, gIx_id, gIf, cond_true, cond_false, gCi_some, gCv_some, gCr_some, gB01_0, gB01_1, gBi_01, gU_same, gU_off, gW_id, Int.toNat_natCast, Int.toNat_add, Int.toNat_mul, Int.reduceToNat, Nat.add_zero, Int.add_zero, bI_eq0, bI_B, Bool.not_true, Bool.not_false, bI_t, bI_f]
    · rw [decide_eq_false (by omega)]; simp (disch := omega) only [gInb_t, gLt_t, gLt_f, gEq_t, gEq_f, gIx_nat, gIx_id, gIf, cond_true, cond_false, gCi_some, gCv_some, gCr_some, gB01_0, gB01_1, gBi_01, gU_same, gU_off, gW_id, Int.toNat_natCast, Int.toNat_add, Int.toNat_mul, Int.reduceToNat, Nat.add_zero, Int.add_zero, bI_eq0, bI_B, Bool.not_true, Bool.not_false, bI_t, bI_f]
theorem s_noPlace (N d e : Nat) (i z : Int) (M : gM) (he : e < 4) (hi : rng i) (h1 : M 88 e = z) (hz : -1 ≤ z ∧ z ≤ 10) : gEv N (d + 2) 162 [.inr (.inr 82), .inl (e : Int), .inl i] M = some (M, some (.inl (if z < 0 then -11 else if 0 ≤ i ∧ i < z then 0 else -12))) := by
  rw [q_X10_noPlace, gIx_e (x := (e : Int)) (n := e) rfl (by omega), h1]
  by_cases c1 : z < 0
  · rw [if_pos c1]; simp (disch := omega) only [gInb_t, gLt_t, gLt_f, gEq_t, gEq_f, gIx_nat, gIx_id, gIf, cond_true, cond_false, gCi_some, gCv_some, gCr_some, gB01_0, gB01_1, gBi_01, gU_same, gU_off, gW_id, Int.toNat_natCast, Int.toNat_add, Int.toNat_mul, Int.reduceToNat, Nat.add_zero, Int.add_zero, bI_eq0, bI_B, Bool.not_true, Bool.not_false, bI_t, bI_f]
  · rw [if_neg c1, gW_id (x := z - 1) (by omega) (by omega), s_min N d i 0 (z - 1) (((0 : Nat) : Int)) (z - 1) M hi (rng_c (by omega) (by omega)) (rng_c (by omega) (by omega)) rfl rfl, gCi_some]
    by_cases c2 : 0 ≤ i ∧ i < z
    · rw [if_pos c2, decide_eq_true (by omega)]; simp (disch := omega) only [gInb_t, gLt_t, gLt_f, gEq_t, gEq_f, gIx_nat, gIx_id, gIf, cond_true, cond_false, gCi_some, gCv_some, gCr_some, gB01_0, gB01_1, gBi_01, gU_same, gU_off, gW_id, Int.toNat_natCast, Int.toNat_add, Int.toNat_mul, Int.reduceToNat, Nat.add_zero, Int.add_zero, bI_eq0, bI_B, Bool.not_true, Bool.not_false, bI_t, bI_f]
    · rw [if_neg c2, decide_eq_false (by omega)]; simp (disch := omega) only [gInb_t, gLt_t, gLt_f, gEq_t, gEq_f, gIx_nat, gIx_id, gIf, cond_true, cond_false, gCi_some, gCv_some, gCr_some, gB01_0, gB01_1, gBi_01, gU_same, gU_off, gW_id, Int.toNat_natCast, Int.toNat_add, Int.toNat_mul, Int.reduceToNat, Nat.add_zero, Int.add_zero, bI_eq0, bI_B, Bool.not_true, Bool.not_false, bI_t, bI_f]
/-- the class's put behind its first tests -/
theorem g_put (C : gCl) (z e : Nat) (i w v : Int) (M : gM) (he : e < 4) (hC : C 93 [.inl w, .inl v] M = some (M, some (.inl 1))) : L_X9_put_27 C (z + 1) (e : Int) i w v M = cond (gEq (M (69 + 3 * e) 0) 0) (some (M, some (.inl (-11)))) (gCi (C 1 [.inr (.inr (70 + 3 * e)), .inl i] M) (fun M3 r4 => cond (gEq r4 0) (some (M3, some (.inl (-12)))) (gIf (gInb i 10) (gIf (gInb i 10) (some (gU (gU M3 (70 + 3 * e) (gIx i) w) (71 + 3 * e) (gIx i) v, some (.inl 1))))))) := by
  rw [q_X9_put_27, hC, gCi_some]
  rcases (by omega : e = 0 ∨ e = 1 ∨ e = 2 ∨ e = 3) with rfl | rfl | rfl | rfl
  · simp (disch := omega) only [gEq_f, gEq_t, cond_false, cond_true, gInb_t, gIf_t]
  · simp (disch := omega) only [gEq_f, gEq_t, cond_false, cond_true, gInb_t, gIf_t]
  · simp (disch := omega) only [gEq_f, gEq_t, cond_false, cond_true, gInb_t, gIf_t]
  · simp (disch := omega) only [gEq_f, gEq_t, cond_false, cond_true, gInb_t, gIf_t]
theorem s_canBePut (N d : Nat) (w v : Int) (M : gM) (hw : rng w) (hv : rng v) : gEv N (d + 2) 93 [.inl w, .inl v] M = some (M, some (.inl (bI (decide ((w = 0 ∧ -9999 ≤ v ∧ v ≤ 9999) ∨ (w = 1 ∧ 0 ≤ v ∧ v ≤ 17575) ∨ w = 2 ∨ w = 3))))) := by
  obtain ⟨w1, w2⟩ := hw
  rw [q_X9_canBePut, s_xin N _ v (-9999) 9999 M hv (rng_c (by omega) (by omega)) (rng_c (by omega) (by omega)), gCi_some, s_xin N _ v 0 17575 M hv (rng_c (by omega) (by omega)) (rng_c (by omega) (by omega)), gCi_some]
  by_cases h0 : w = 0
  · subst h0
    by_cases h : -9999 ≤ v ∧ v ≤ 9999
    · rw [decide_eq_true h, decide_eq_true (Or.inl ⟨rfl, h⟩)]; simp (disch := omega) only [gInb_t, gLt_t, gLt_f, gEq_t, gEq_f, gIx_nat, gIx_id, gIf, cond_true, cond_false, gCi_some, gCv_some, gCr_some, gB01_0, gB01_1, gBi_01, gU_same, gU_off, gW_id, Int.toNat_natCast, Int.toNat_add, Int.toNat_mul, Int.reduceToNat, Nat.add_zero, Int.add_zero, bI_eq0, bI_B, Bool.not_true, Bool.not_false, bI_t, bI_f]
    · rw [decide_eq_false h, decide_eq_false (show ¬ (((0 : Int) = 0 ∧ -9999 ≤ v ∧ v ≤ 9999) ∨ ((0 : Int) = 1 ∧ 0 ≤ v ∧ v ≤ 17575) ∨ (0 : Int) = 2 ∨ (0 : Int) = 3) by omega)]; simp (disch := omega) only [gInb_t, gLt_t, gLt_f, gEq_t, gEq_f, gIx_nat, gIx_id, gIf, cond_true, cond_false, gCi_some, gCv_some, gCr_some, gB01_0, gB01_1, gBi_01, gU_same, gU_off, gW_id, Int.toNat_natCast, Int.toNat_add, Int.toNat_mul, Int.reduceToNat, Nat.add_zero, Int.add_zero, bI_eq0, bI_B, Bool.not_true, Bool.not_false, bI_t, bI_f]
  by_cases h1 : w = 1
  · subst h1
    by_cases h : 0 ≤ v ∧ v ≤ 17575
    · rw [decide_eq_true h, decide_eq_true (show (((1 : Int) = 0 ∧ -9999 ≤ v ∧ v ≤ 9999) ∨ ((1 : Int) = 1 ∧ 0 ≤ v ∧ v ≤ 17575) ∨ (1 : Int) = 2 ∨ (1 : Int) = 3) by omega)]; simp (disch := omega) only [gInb_t, gLt_t, gLt_f, gEq_t, gEq_f, gIx_nat, gIx_id, gIf, cond_true, cond_false, gCi_some, gCv_some, gCr_some, gB01_0, gB01_1, gBi_01, gU_same, gU_off, gW_id, Int.toNat_natCast, Int.toNat_add, Int.toNat_mul, Int.reduceToNat, Nat.add_zero, Int.add_zero, bI_eq0, bI_B, Bool.not_true, Bool.not_false, bI_t, bI_f]
    · rw [decide_eq_false h, decide_eq_false (show ¬ (((1 : Int) = 0 ∧ -9999 ≤ v ∧ v ≤ 9999) ∨ ((1 : Int) = 1 ∧ 0 ≤ v ∧ v ≤ 17575) ∨ (1 : Int) = 2 ∨ (1 : Int) = 3) by omega)]; simp (disch := omega) only [gInb_t, gLt_t, gLt_f, gEq_t, gEq_f, gIx_nat, gIx_id, gIf, cond_true, cond_false, gCi_some, gCv_some, gCr_some, gB01_0, gB01_1, gBi_01, gU_same, gU_off, gW_id, Int.toNat_natCast, Int.toNat_add, Int.toNat_mul, Int.reduceToNat, Nat.add_zero, Int.add_zero, bI_eq0, bI_B, Bool.not_true, Bool.not_false, bI_t, bI_f]
  by_cases h2 : w = 2
  · rw [decide_eq_true (show (w = 0 ∧ -9999 ≤ v ∧ v ≤ 9999) ∨ (w = 1 ∧ 0 ≤ v ∧ v ≤ 17575) ∨ w = 2 ∨ w = 3 by omega)]; simp (disch := omega) only [gInb_t, gLt_t, gLt_f, gEq_t, gEq_f, gIx_nat, gIx_id, gIf, cond_true, cond_false, gCi_some, gCv_some, gCr_some, gB01_0, gB01_1, gBi_01, gU_same, gU_off, gW_id, Int.toNat_natCast, Int.toNat_add, Int.toNat_mul, Int.reduceToNat, Nat.add_zero, Int.add_zero, bI_eq0, bI_B, Bool.not_true, Bool.not_false, bI_t, bI_f]
  by_cases h3 : w = 3
  · rw [decide_eq_true (show (w = 0 ∧ -9999 ≤ v ∧ v ≤ 9999) ∨ (w = 1 ∧ 0 ≤ v ∧ v ≤ 17575) ∨ w = 2 ∨ w = 3 by omega)]; simp (disch := omega) only [gInb_t, gLt_t, gLt_f, gEq_t, gEq_f, gIx_nat, gIx_id, gIf, cond_true, cond_false, gCi_some, gCv_some, gCr_some, gB01_0, gB01_1, gBi_01, gU_same, gU_off, gW_id, Int.toNat_natCast, Int.toNat_add, Int.toNat_mul, Int.reduceToNat, Nat.add_zero, Int.add_zero, bI_eq0, bI_B, Bool.not_true, Bool.not_false, bI_t, bI_f]
  rw [decide_eq_false (show ¬ ((w = 0 ∧ -9999 ≤ v ∧ v ≤ 9999) ∨ (w = 1 ∧ 0 ≤ v ∧ v ≤ 17575) ∨ w = 2 ∨ w = 3) by omega)]; simp (disch := omega) only [gInb_t, gLt_t, gLt_f, gEq_t, gEq_f, gIx_nat, gIx_id, gIf, cond_true, cond_false, gCi_some, gCv_some, gCr_some, gB01_0, gB01_1, gBi_01, gU_same, gU_off, gW_id, Int.toNat_natCast, Int.toNat_add, Int.toNat_mul, Int.reduceToNat, Nat.add_zero, Int.add_zero, bI_eq0, bI_B, Bool.not_true, Bool.not_false, bI_t, bI_f]
/-- put, where the place alone is left to be looked at -/
theorem put_go (N d e z : Nat) (i w v : Int) (M : gM) (hI : kInv M) (he : e < 4) (hi : rng i) (hv : rng v) (hw3 : 0 ≤ w ∧ w ≤ 3) (hp : w = 2 → 0 ≤ v ∧ v < M 6 0) : ∃ M1 r M2, (cond (gEq (M (69 + 3 * e) 0) 0) (some (M, some (.inl (-11)))) (gCi (gEv N (d + 19) 1 [.inr (.inr (70 + 3 * e)), .inl i] M) (fun M3 r4 => cond (gEq r4 0) (some (M3, some (.inl (-12)))) (gIf (gInb i 10) (gIf (gInb i 10) (some (gU (gU M3 (70 + 3 * e) (gIx i) w) (71 + 3 * e) (gIx i) v, some (.inl 1))))))) : Option gR) = some (M1, some (.inl r)) ∧ L_X10_put_76 (gEv N (d + 19)) (z + 1) (e : Int) i w v M1 = some (M2, some (.inl r)) ∧ (∀ j, M1 1000 j = M 1000 j) ∧ M1 1001 0 = M 1001 0 ∧ (∀ j, 29 ≤ j → j < 37 → M1 82 j = M 82 j) ∧ kInv M2 := by
  obtain ⟨n, K, t, F, G, c, A, B, c', A', B', l, s, h⟩ := id hI
  obtain ⟨hP, hW, hT, hQ, hQ', hX, hU, hKp, hS, hD, hw, hz⟩ := id h
  have hn := hP.1
  have h6 := hP.2.1
  have m29 := hP.2.2.1
  have hKx := iPpl_kx hP
  have hKm := iPpl_km hP
  obtain ⟨hOk, hG8, hH0⟩ := id hW
  obtain ⟨d1, d2⟩ := hD e he
  rcases d1 with ⟨g0, g1⟩ | ⟨g0, g1, g2, g3⟩
  · refine ⟨M, -11, M, ?_, ?_, fun _ => rfl, rfl, fun _ _ _ => rfl, hI⟩
    · rw [g0]; simp (disch := omega) only [gInb_t, gLt_t, gLt_f, gEq_t, gEq_f, gIx_nat, gIx_id, gIf, cond_true, cond_false, gCi_some, gCv_some, gCr_some, gB01_0, gB01_1, gBi_01, gU_same, gU_off, gW_id, Int.toNat_natCast, Int.toNat_add, Int.toNat_mul, Int.reduceToNat, Nat.add_zero, Int.add_zero, bI_eq0, bI_B, Bool.not_true, Bool.not_false, bI_t, bI_f]
    · rw [q_X10_put_76, s_noPlace N (d + 17) e i (-1) M he hi g1 (by omega), gCi_some, if_pos (by omega)]; simp (disch := omega) only [gInb_t, gLt_t, gLt_f, gEq_t, gEq_f, gIx_nat, gIx_id, gIf, cond_true, cond_false, gCi_some, gCv_some, gCr_some, gB01_0, gB01_1, gBi_01, gU_same, gU_off, gW_id, Int.toNat_natCast, Int.toNat_add, Int.toNat_mul, Int.reduceToNat, Nat.add_zero, Int.add_zero, bI_eq0, bI_B, Bool.not_true, Bool.not_false, bI_t, bI_f]
  · have x1 := s_hasPlace N (d + 18) e i (M 88 e) M he hi g3 ⟨g1, g2⟩
    by_cases hr : 0 ≤ i ∧ i < M 88 e
    · rw [decide_eq_true hr] at x1
      obtain ⟨k, rfl⟩ : ∃ k : Nat, i = (k : Int) := ⟨i.toNat, by omega⟩
      have hk : k < 10 := by omega
      have ik := gIx_e (x := (k : Int)) (n := k) rfl (by omega)
      have iek := gIx_e (x := 10 * (e : Int) + (k : Int)) (n := 10 * e + k) (by omega) (by omega)
      have f1 : ∀ q j, ¬ (q = 70 + 3 * e ∨ q = 71 + 3 * e) → gU (gU M (70 + 3 * e) k w) (71 + 3 * e) k v q j = M q j := fun q j hq => by rw [gU_off _ _ (by omega), gU_off _ _ (by omega)]
      have p1 : gU (gU M (70 + 3 * e) k w) (71 + 3 * e) k v (70 + 3 * e) k = w := by rw [gU_off _ _ (by omega), gU_same]
      have p2 : gU (gU M (70 + 3 * e) k w) (71 + 3 * e) k v (71 + 3 * e) k = v := gU_same _ _ _ _
      have p3 : ∀ j, j ≠ k → gU (gU M (70 + 3 * e) k w) (71 + 3 * e) k v (70 + 3 * e) j = M (70 + 3 * e) j := fun j hj => by rw [gU_off _ _ (by omega), gU_off _ _ (by omega)]
      have p4 : ∀ j, j ≠ k → gU (gU M (70 + 3 * e) k w) (71 + 3 * e) k v (71 + 3 * e) j = M (71 + 3 * e) j := fun j hj => by rw [gU_off _ _ (by omega), gU_off _ _ (by omega)]
      generalize hM1 : gU (gU M (70 + 3 * e) k w) (71 + 3 * e) k v = M1 at f1 p1 p2 p3 p4
      have y1 := s_noPlace N (d + 17) e (k : Int) (M 88 e) M1 he hi (f1 _ _ (by omega)) ⟨by omega, g2⟩
      rw [if_neg (by omega), if_pos hr] at y1
      refine ⟨M1, 1, gU (gU M1 89 (10 * e + k) (if w = 3 then -1 else w)) 90 (10 * e + k) v, ?_, ?_, fun j => f1 _ _ (by omega), f1 _ _ (by omega), fun j _ _ => f1 _ _ (by omega), n, K, t, F, G, c, A, B, c', A', B', l, s, kI_drs (iDrs_one he hD ⟨?_, fun j hj => ?_⟩ (fun q j hq _ => ?_)) h (fun q j hq => ?_)⟩
      · rw [x1, gCi_some, ik, hM1, g0]; simp (disch := omega) only [gInb_t, gLt_t, gLt_f, gEq_t, gEq_f, gIx_nat, gIx_id, gIf, cond_true, cond_false, gCi_some, gCv_some, gCr_some, gB01_0, gB01_1, gBi_01, gU_same, gU_off, gW_id, Int.toNat_natCast, Int.toNat_add, Int.toNat_mul, Int.reduceToNat, Nat.add_zero, Int.add_zero, bI_eq0, bI_B, Bool.not_true, Bool.not_false, bI_t, bI_f]
      · rw [q_X10_put_76, y1, gCi_some, iek]
        by_cases h3 : w = 3
        · rw [if_pos h3]; simp (disch := omega) only [gInb_t, gLt_t, gLt_f, gEq_t, gEq_f, gIx_nat, gIx_id, gIf, cond_true, cond_false, gCi_some, gCv_some, gCr_some, gB01_0, gB01_1, gBi_01, gU_same, gU_off, gW_id, Int.toNat_natCast, Int.toNat_add, Int.toNat_mul, Int.reduceToNat, Nat.add_zero, Int.add_zero, bI_eq0, bI_B, Bool.not_true, Bool.not_false, bI_t, bI_f]
        · rw [if_neg h3]; simp (disch := omega) only [gInb_t, gLt_t, gLt_f, gEq_t, gEq_f, gIx_nat, gIx_id, gIf, cond_true, cond_false, gCi_some, gCv_some, gCr_some, gB01_0, gB01_1, gBi_01, gU_same, gU_off, gW_id, Int.toNat_natCast, Int.toNat_add, Int.toNat_mul, Int.reduceToNat, Nat.add_zero, Int.add_zero, bI_eq0, bI_B, Bool.not_true, Bool.not_false, bI_t, bI_f]
      · rw [gU_off _ _ (by omega), gU_off _ _ (by omega), gU_off _ _ (by omega), gU_off _ _ (by omega), gU_off _ _ (by omega), gU_off _ _ (by omega), f1 _ _ (by omega), f1 _ _ (by omega), f1 _ _ (by omega)]
        exact Or.inr ⟨g0, g1, g2, g3⟩
      · rw [gU_off (p := 90) (q := 70 + 3 * e) _ _ (by omega), gU_off (p := 89) (q := 70 + 3 * e) _ _ (by omega), gU_off (p := 90) (q := 71 + 3 * e) _ _ (by omega), gU_off (p := 89) (q := 71 + 3 * e) _ _ (by omega), gU_off (p := 90) (q := 69 + 3 * e) _ _ (by omega), gU_off (p := 89) (q := 69 + 3 * e) _ _ (by omega), f1 (69 + 3 * e) _ (by omega), gU_off (p := 90) (q := 89) _ _ (by omega)]
        by_cases hjk : j = k
        · subst hjk
          rw [gU_same, gU_same, p1, p2]
          exact ⟨hw3.1, hw3.2, rfl, hv, rfl, fun _ h5 => by have := hp h5; omega⟩
        · rw [gU_off (p := 89) (q := 89) _ _ (by omega), gU_off (p := 90) (q := 90) _ _ (by omega), gU_off (p := 89) (q := 90) _ _ (by omega), p3 j hjk, p4 j hjk, f1 89 _ (by omega), f1 90 _ (by omega)]
          exact d2 j hj
      · rw [gU_off _ _ (by omega), gU_off _ _ (by omega), f1 _ _ (by omega)]
      · rw [gU_off _ _ (by omega), gU_off _ _ (by omega), f1 _ _ (by omega)]
    · rw [decide_eq_false hr] at x1
      have y1 := s_noPlace N (d + 17) e i (M 88 e) M he hi rfl ⟨by omega, g2⟩
      rw [if_neg (by omega), if_neg hr] at y1
      refine ⟨M, -12, M, ?_, ?_, fun _ => rfl, rfl, fun _ _ _ => rfl, hI⟩
      · rw [x1, gCi_some, g0]; simp (disch := omega) only [gInb_t, gLt_t, gLt_f, gEq_t, gEq_f, gIx_nat, gIx_id, gIf, cond_true, cond_false, gCi_some, gCv_some, gCr_some, gB01_0, gB01_1, gBi_01, gU_same, gU_off, gW_id, Int.toNat_natCast, Int.toNat_add, Int.toNat_mul, Int.reduceToNat, Nat.add_zero, Int.add_zero, bI_eq0, bI_B, Bool.not_true, Bool.not_false, bI_t, bI_f]
      · rw [q_X10_put_76, y1, gCi_some]; simp (disch := omega) only [gInb_t, gLt_t, gLt_f, gEq_t, gEq_f, gIx_nat, gIx_id, gIf, cond_true, cond_false, gCi_some, gCv_some, gCr_some, gB01_0, gB01_1, gBi_01, gU_same, gU_off, gW_id, Int.toNat_natCast, Int.toNat_add, Int.toNat_mul, Int.reduceToNat, Nat.add_zero, Int.add_zero, bI_eq0, bI_B, Bool.not_true, Bool.not_false, bI_t, bI_f]
