-- 62: put, take, drop
theorem l_put24 (N d e z : Nat) (i w v : Int) (M : gM) (hw : 0 ≤ w ∧ w ≤ 3) (hv : rng v) : L_X10_put_24 (gEv N (d + 1)) (z + 1 + 1) (e : Int) i w v M = if (w = 0 ∧ ¬ (-9999 ≤ v ∧ v ≤ 9999)) ∨ (w = 1 ∧ ¬ (0 ≤ v ∧ v ≤ 17575)) then some (M, some (.inl (-3))) else L_X10_put_76 (gEv N (d + 1)) z (e : Int) i w v M := by
  have r : rng w := ⟨by omega, by omega⟩
  rw [q_X10_put_24, s_min N _ w 0 3 (((0 : Nat) : Int)) (((3 : Nat) : Int) - ((0 : Nat) : Int)) M r (rng_c (by omega) (by omega)) (rng_c (by omega) (by omega)) rfl rfl, gCi_some, decide_eq_true hw, show (((0 : Nat) : Int) - ((9999 : Nat) : Int)) = -9999 from rfl, s_min N d v (-9999) 9999 (-9999) (((9999 : Nat) : Int) - ((0 : Nat) : Int)) M hv (rng_c (by omega) (by omega)) (rng_c (by omega) (by omega)) rfl rfl, gCi_some, q_X10_put_55, s_min N _ v 0 17575 (((0 : Nat) : Int)) (((17575 : Nat) : Int) - ((0 : Nat) : Int)) M hv (rng_c (by omega) (by omega)) (rng_c (by omega) (by omega)) rfl rfl, gCi_some]
  by_cases h0 : w = 0
  · subst h0
    by_cases h : -9999 ≤ v ∧ v ≤ 9999
    · rw [decide_eq_true h, if_neg (by omega)]; simp (disch := omega) only [gInb_t, gLt_t, gLt_f, gEq_t, gEq_f, gIx_nat, gIx_id, gIf, cond_true, cond_false, gCi_some, gCv_some, gCr_some, gB01_0, gB01_1, gBi_01, gU_same, gU_off, gW_id, Int.toNat_natCast, Int.toNat_add, Int.toNat_mul, Int.reduceToNat, Nat.add_zero, Int.add_zero, bI_eq0, bI_B, Bool.not_true, Bool.not_false, bI_t, bI_f]
    · rw [decide_eq_false h, if_pos (by omega)]; simp (disch := omega) only [gInb_t, gLt_t, gLt_f, gEq_t, gEq_f, gIx_nat, gIx_id, gIf, cond_true, cond_false, gCi_some, gCv_some, gCr_some, gB01_0, gB01_1, gBi_01, gU_same, gU_off, gW_id, Int.toNat_natCast, Int.toNat_add, Int.toNat_mul, Int.reduceToNat, Nat.add_zero, Int.add_zero, bI_eq0, bI_B, Bool.not_true, Bool.not_false, bI_t, bI_f]
  by_cases h1 : w = 1
  · subst h1
    by_cases h : 0 ≤ v ∧ v ≤ 17575
    · rw [decide_eq_true h, if_neg (by omega)]; simp (disch := omega) only [gInb_t, gLt_t, gLt_f, gEq_t, gEq_f, gIx_nat, gIx_id, gIf, cond_true, cond_false, gCi_some, gCv_some, gCr_some, gB01_0, gB01_1, gBi_01, gU_same, gU_off, gW_id, Int.toNat_natCast, Int.toNat_add, Int.toNat_mul, Int.reduceToNat, Nat.add_zero, Int.add_zero, bI_eq0, bI_B, Bool.not_true, Bool.not_false, bI_t, bI_f]
    · rw [decide_eq_false h, if_pos (by omega)]; simp (disch := omega) only [gInb_t, gLt_t, gLt_f, gEq_t, gEq_f, gIx_nat, gIx_id, gIf, cond_true, cond_false, gCi_some, gCv_some, gCr_some, gB01_0, gB01_1, gBi_01, gU_same, gU_off, gW_id, Int.toNat_natCast, Int.toNat_add, Int.toNat_mul, Int.reduceToNat, Nat.add_zero, Int.add_zero, bI_eq0, bI_B, Bool.not_true, Bool.not_false, bI_t, bI_f]
  rw [if_neg (by omega)]; simp (disch := omega) only [gInb_t, gLt_t, gLt_f, gEq_t, gEq_f, gIx_nat, gIx_id, gIf, cond_true, cond_false, gCi_some, gCv_some, gCr_some, gB01_0, gB01_1, gBi_01, gU_same, gU_off, gW_id, Int.toNat_natCast, Int.toNat_add, Int.toNat_mul, Int.reduceToNat, Nat.add_zero, Int.add_zero, bI_eq0, bI_B, Bool.not_true, Bool.not_false, bI_t, bI_f]
theorem p_put (N d : Nat) (a i w v : Int) (M : gM) (hN : 100000 ≤ N) (hI : kInv M) (ha : rng a) (hi : rng i) (hwr : rng w) (hv : rng v) : kPair N (d + 20) 81 163 [.inl a, .inl i, .inl w, .inl v] M := by
  obtain ⟨n, K, t, F, G, c, A, B, c', A', B', l, s, h⟩ := id hI
  obtain ⟨hP, hW, hT, hQ, hQ', hX, hU, hKp, hS, hD, hw, hz⟩ := id h
  have hn := hP.1
  have h6 := hP.2.1
  have m29 := hP.2.2.1
  have hKx := iPpl_kx hP
  have hKm := iPpl_km hP
  obtain ⟨hOk, hG8, hH0⟩ := id hW
  obtain ⟨w1, w2⟩ := id hwr
  have c1 := q_X9_put N (d + 19) a i w v M
  rw [s_xdr _ _ _ _ ha, gCi_some, s_xhas _ _ n _ _ hn h6 hv, gCi_some] at c1
  by_cases h0 : 0 ≤ a ∧ a ≤ 3
  · rw [decide_eq_true h0] at c1
    obtain ⟨e, rfl⟩ : ∃ e : Nat, a = (e : Int) := ⟨a.toNat, by omega⟩
    have he : e < 4 := by omega
    have fz : ∃ z, N = z + 1 + 1 + 1 := ⟨N - 3, by omega⟩
    obtain ⟨z, hz⟩ := fz
    have hcb := s_canBePut N (d + 17) w v M hwr hv
    have f27 : ∀ y, 1 ≤ y → ¬ ((w = 0 ∧ -9999 ≤ v ∧ v ≤ 9999) ∨ (w = 1 ∧ 0 ≤ v ∧ v ≤ 17575) ∨ w = 2 ∨ w = 3) → L_X9_put_27 (gEv N (d + 19)) y (e : Int) i w v M = some (M, some (.inl (-3))) := fun y hy hc => by
      obtain ⟨y, rfl⟩ : ∃ q, y = q + 1 := ⟨y - 1, by omega⟩
      rw [q_X9_put_27, hcb, gCi_some, decide_eq_false hc]; simp (disch := omega) only [gInb_t, gLt_t, gLt_f, gEq_t, gEq_f, gIx_nat, gIx_id, gIf, cond_true, cond_false, gCi_some, gCv_some, gCr_some, gB01_0, gB01_1, gBi_01, gU_same, gU_off, gW_id, Int.toNat_natCast, Int.toNat_add, Int.toNat_mul, Int.reduceToNat, Nat.add_zero, Int.add_zero, bI_eq0, bI_B, Bool.not_true, Bool.not_false, bI_t, bI_f]
    by_cases hb : 0 ≤ w ∧ w ≤ 3
    · by_cases h2 : w = 2 ∧ ¬ (0 ≤ v ∧ v < (n : Int))
      · obtain ⟨rfl, h2⟩ := h2
        rw [decide_eq_false h2] at c1
        refine kPair_ro (-2) hI (c1.trans ?_) ?_
        · simp (disch := omega) only [gInb_t, gLt_t, gLt_f, gEq_t, gEq_f, gIx_nat, gIx_id, gIf, cond_true, cond_false, gCi_some, gCv_some, gCr_some, gB01_0, gB01_1, gBi_01, gU_same, gU_off, gW_id, Int.toNat_natCast, Int.toNat_add, Int.toNat_mul, Int.reduceToNat, Nat.add_zero, Int.add_zero, bI_eq0, bI_B, Bool.not_true, Bool.not_false, bI_t, bI_f]
        · rw [q_X10_put, s_mdr _ _ _ _ ha, gCi_some, decide_eq_true h0, s_mhas _ _ n _ _ hn m29 hv, gCi_some, decide_eq_false h2]; simp (disch := omega) only [gInb_t, gLt_t, gLt_f, gEq_t, gEq_f, gIx_nat, gIx_id, gIf, cond_true, cond_false, gCi_some, gCv_some, gCr_some, gB01_0, gB01_1, gBi_01, gU_same, gU_off, gW_id, Int.toNat_natCast, Int.toNat_add, Int.toNat_mul, Int.reduceToNat, Nat.add_zero, Int.add_zero, bI_eq0, bI_B, Bool.not_true, Bool.not_false, bI_t, bI_f]
      · by_cases hc : (w = 0 ∧ -9999 ≤ v ∧ v ≤ 9999) ∨ (w = 1 ∧ 0 ≤ v ∧ v ≤ 17575) ∨ w = 2 ∨ w = 3
        · rw [decide_eq_true hc] at hcb
          have x27 := g_put (gEv N (d + 19)) (z + 1 + 1) e i w v M he hcb
          rw [← hz] at x27
          obtain ⟨M1, r, M2, g1, g2, g3, g4, g5, g6⟩ := put_go N d e z i w v M hI he hi hv hb (fun q => by rw [h6]; omega)
          have x28 := x27.trans g1
          refine ⟨M1, r, M2, c1.trans ?_, ?_, g3, g4, g6⟩
          · by_cases h2 : w = 2
            · rw [decide_eq_true (show 0 ≤ v ∧ v < (n : Int) by omega)]
              simp (disch := omega) only [gInb_t, gLt_t, gLt_f, gEq_t, gEq_f, gIx_nat, gIx_id, gIf, cond_true, cond_false, gCi_some, gCv_some, gCr_some, gB01_0, gB01_1, gBi_01, gU_same, gU_off, gW_id, Int.toNat_natCast, Int.toNat_add, Int.toNat_mul, Int.reduceToNat, Nat.add_zero, Int.add_zero, bI_eq0, bI_B, Bool.not_true, Bool.not_false, bI_t, bI_f, x28]
            · simp (disch := omega) only [gInb_t, gLt_t, gLt_f, gEq_t, gEq_f, gIx_nat, gIx_id, gIf, cond_true, cond_false, gCi_some, gCv_some, gCr_some, gB01_0, gB01_1, gBi_01, gU_same, gU_off, gW_id, Int.toNat_natCast, Int.toNat_add, Int.toNat_mul, Int.reduceToNat, Nat.add_zero, Int.add_zero, bI_eq0, bI_B, Bool.not_true, Bool.not_false, bI_t, bI_f, x28]
          · have m29' : M1 82 29 = (n : Int) := (g5 _ (by omega) (by omega)).trans m29
            have y24 := l_put24 N (d + 18) e (z + 1) i w v M1 hb hv
            rw [← hz, if_neg (by omega)] at y24
            rw [q_X10_put, s_mdr _ _ _ _ ha, gCi_some, decide_eq_true h0, s_mhas _ _ n _ _ hn m29' hv, gCi_some, y24, g2]
            by_cases h2 : w = 2
            · rw [decide_eq_true (show 0 ≤ v ∧ v < (n : Int) by omega)]; simp (disch := omega) only [gInb_t, gLt_t, gLt_f, gEq_t, gEq_f, gIx_nat, gIx_id, gIf, cond_true, cond_false, gCi_some, gCv_some, gCr_some, gB01_0, gB01_1, gBi_01, gU_same, gU_off, gW_id, Int.toNat_natCast, Int.toNat_add, Int.toNat_mul, Int.reduceToNat, Nat.add_zero, Int.add_zero, bI_eq0, bI_B, Bool.not_true, Bool.not_false, bI_t, bI_f]
            · simp (disch := omega) only [gInb_t, gLt_t, gLt_f, gEq_t, gEq_f, gIx_nat, gIx_id, gIf, cond_true, cond_false, gCi_some, gCv_some, gCr_some, gB01_0, gB01_1, gBi_01, gU_same, gU_off, gW_id, Int.toNat_natCast, Int.toNat_add, Int.toNat_mul, Int.reduceToNat, Nat.add_zero, Int.add_zero, bI_eq0, bI_B, Bool.not_true, Bool.not_false, bI_t, bI_f]
        · have x27 := f27 N (by omega) hc
          have y24 := l_put24 N (d + 18) e (z + 1) i w v M hb hv
          rw [← hz, if_pos (by omega)] at y24
          refine kPair_ro (-3) hI (c1.trans ?_) ?_
          · simp (disch := omega) only [gInb_t, gLt_t, gLt_f, gEq_t, gEq_f, gIx_nat, gIx_id, gIf, cond_true, cond_false, gCi_some, gCv_some, gCr_some, gB01_0, gB01_1, gBi_01, gU_same, gU_off, gW_id, Int.toNat_natCast, Int.toNat_add, Int.toNat_mul, Int.reduceToNat, Nat.add_zero, Int.add_zero, bI_eq0, bI_B, Bool.not_true, Bool.not_false, bI_t, bI_f, x27]
          · rw [q_X10_put, s_mdr _ _ _ _ ha, gCi_some, decide_eq_true h0, y24]; simp (disch := omega) only [gInb_t, gLt_t, gLt_f, gEq_t, gEq_f, gIx_nat, gIx_id, gIf, cond_true, cond_false, gCi_some, gCv_some, gCr_some, gB01_0, gB01_1, gBi_01, gU_same, gU_off, gW_id, Int.toNat_natCast, Int.toNat_add, Int.toNat_mul, Int.reduceToNat, Nat.add_zero, Int.add_zero, bI_eq0, bI_B, Bool.not_true, Bool.not_false, bI_t, bI_f]
    · have x27 := f27 N (by omega) (by omega)
      refine kPair_ro (-3) hI (c1.trans ?_) ?_
      · simp (disch := omega) only [gInb_t, gLt_t, gLt_f, gEq_t, gEq_f, gIx_nat, gIx_id, gIf, cond_true, cond_false, gCi_some, gCv_some, gCr_some, gB01_0, gB01_1, gBi_01, gU_same, gU_off, gW_id, Int.toNat_natCast, Int.toNat_add, Int.toNat_mul, Int.reduceToNat, Nat.add_zero, Int.add_zero, bI_eq0, bI_B, Bool.not_true, Bool.not_false, bI_t, bI_f, x27]
      · have y24 : ∀ y, 1 ≤ y → L_X10_put_24 (gEv N (d + 19)) y (e : Int) i w v M = some (M, some (.inl (-3))) := fun y hy => by
          obtain ⟨y, rfl⟩ : ∃ q, y = q + 1 := ⟨y - 1, by omega⟩
          rw [q_X10_put_24, s_min N _ w 0 3 (((0 : Nat) : Int)) (((3 : Nat) : Int) - ((0 : Nat) : Int)) M hwr (rng_c (by omega) (by omega)) (rng_c (by omega) (by omega)) rfl rfl, gCi_some, decide_eq_false hb]; simp (disch := omega) only [gInb_t, gLt_t, gLt_f, gEq_t, gEq_f, gIx_nat, gIx_id, gIf, cond_true, cond_false, gCi_some, gCv_some, gCr_some, gB01_0, gB01_1, gBi_01, gU_same, gU_off, gW_id, Int.toNat_natCast, Int.toNat_add, Int.toNat_mul, Int.reduceToNat, Nat.add_zero, Int.add_zero, bI_eq0, bI_B, Bool.not_true, Bool.not_false, bI_t, bI_f]
        have y25 := y24 N (by omega)
        rw [q_X10_put, s_mdr _ _ _ _ ha, gCi_some, decide_eq_true h0]
        simp (disch := omega) only [gInb_t, gLt_t, gLt_f, gEq_t, gEq_f, gIx_nat, gIx_id, gIf, cond_true, cond_false, gCi_some, gCv_some, gCr_some, gB01_0, gB01_1, gBi_01, gU_same, gU_off, gW_id, Int.toNat_natCast, Int.toNat_add, Int.toNat_mul, Int.reduceToNat, Nat.add_zero, Int.add_zero, bI_eq0, bI_B, Bool.not_true, Bool.not_false, bI_t, bI_f, y25]
  · rw [decide_eq_false h0] at c1
    refine kPair_ro (-2) hI (c1.trans ?_) ?_
    · simp (disch := omega) only [gInb_t, gLt_t, gLt_f, gEq_t, gEq_f, gIx_nat, gIx_id, gIf, cond_true, cond_false, gCi_some, gCv_some, gCr_some, gB01_0, gB01_1, gBi_01, gU_same, gU_off, gW_id, Int.toNat_natCast, Int.toNat_add, Int.toNat_mul, Int.reduceToNat, Nat.add_zero, Int.add_zero, bI_eq0, bI_B, Bool.not_true, Bool.not_false, bI_t, bI_f]
    · rw [q_X10_put, s_mdr _ _ _ _ ha, gCi_some, decide_eq_false h0]; simp (disch := omega) only [gInb_t, gLt_t, gLt_f, gEq_t, gEq_f, gIx_nat, gIx_id, gIf, cond_true, cond_false, gCi_some, gCv_some, gCr_some, gB01_0, gB01_1, gBi_01, gU_same, gU_off, gW_id, Int.toNat_natCast, Int.toNat_add, Int.toNat_mul, Int.reduceToNat, Nat.add_zero, Int.add_zero, bI_eq0, bI_B, Bool.not_true, Bool.not_false, bI_t, bI_f]
/-- the class's take at one drawer -/
noncomputable def tkE (C : gCl) (e : Nat) (i w : Int) (M : gM) : Option gR := cond (gEq (M (69 + 3 * e) 0) 0) (some (M, some (.inl (-11)))) (gCi (C 1 [.inr (.inr (70 + 3 * e)), .inl i] M) (fun M5 r6 => cond (gEq r6 0) (some (M5, some (.inl (-12)))) (gIf (gInb i 10) (cond (gEq (M5 (70 + 3 * e) (gIx i)) 3) (some (M5, some (.inl (-13)))) (gIf (gInb i 10) (cond (gEq (M5 (70 + 3 * e) (gIx i)) w) (cond (gEq w 0) (gIf (gInb i 10) (some (M5, some (.inl (M5 (71 + 3 * e) (gIx i) + (((50000 : Nat) : Int))))))) (gIf (gInb i 10) (some (M5, some (.inl (M5 (71 + 3 * e) (gIx i))))))) (some (M5, some (.inl (-14))))))))))
theorem p_take (N d : Nat) (a i w : Int) (M : gM) (hN : 100000 ≤ N) (hI : kInv M) (ha : rng a) (hi : rng i) (hwr : rng w) : kPair N (d + 20) 82 164 [.inl a, .inl i, .inl w] M := by
  obtain ⟨n, K, t, F, G, c, A, B, c', A', B', l, s, h⟩ := id hI
  obtain ⟨hP, hW, hT, hQ, hQ', hX, hU, hKp, hS, hD, hw, hz⟩ := id h
  have hn := hP.1
  have h6 := hP.2.1
  have m29 := hP.2.2.1
  have hKx := iPpl_kx hP
  have hKm := iPpl_km hP
  obtain ⟨hOk, hG8, hH0⟩ := id hW
  obtain ⟨w1, w2⟩ := id hwr
  have c1 := q_X9_take N (d + 19) a i w M
  rw [s_xdr _ _ _ _ ha, gCi_some, s_xin N _ w 0 2 M hwr (rng_c (by omega) (by omega)) (rng_c (by omega) (by omega)), gCi_some] at c1
  have c2 := q_X10_take N (d + 19) a i w M
  rw [s_mdr _ _ _ _ ha, gCi_some, s_min N _ w 0 2 (((0 : Nat) : Int)) (((2 : Nat) : Int) - ((0 : Nat) : Int)) M hwr (rng_c (by omega) (by omega)) (rng_c (by omega) (by omega)) rfl rfl, gCi_some] at c2
  by_cases h0 : 0 ≤ a ∧ a ≤ 3
  · rw [decide_eq_true h0] at c1 c2
    obtain ⟨e, rfl⟩ : ∃ e : Nat, a = (e : Int) := ⟨a.toNat, by omega⟩
    have he : e < 4 := by omega
    by_cases h1 : 0 ≤ w ∧ w ≤ 2
    · rw [decide_eq_true h1] at c1 c2
      have c3 : gEv N (d + 20) 82 [.inr (.inr 1), .inl (e : Int), .inl i, .inl w] M = tkE (gEv N (d + 19)) e i w M := by
        refine c1.trans ?_
        unfold tkE
        rcases (by omega : e = 0 ∨ e = 1 ∨ e = 2 ∨ e = 3) with rfl | rfl | rfl | rfl
        · simp (disch := omega) only [gEq_f, gEq_t, cond_false, cond_true, gInb_t, gIf_t, bI_eq0, Bool.not_true]
        · simp (disch := omega) only [gEq_f, gEq_t, cond_false, cond_true, gInb_t, gIf_t, bI_eq0, Bool.not_true]
        · simp (disch := omega) only [gEq_f, gEq_t, cond_false, cond_true, gInb_t, gIf_t, bI_eq0, Bool.not_true]
        · simp (disch := omega) only [gEq_f, gEq_t, cond_false, cond_true, gInb_t, gIf_t, bI_eq0, Bool.not_true]
      unfold tkE at c3
      obtain ⟨d1, d2⟩ := hD e he
      rcases d1 with ⟨g0, g1⟩ | ⟨g0, g1, g2, g3⟩
      · rw [g0] at c3
        rw [s_noPlace N (d + 17) e i (-1) M he hi g1 (by omega), gCi_some, if_pos (by omega)] at c2
        refine kPair_ro (-11) hI (c3.trans ?_) (c2.trans ?_)
        · simp (disch := omega) only [gInb_t, gLt_t, gLt_f, gEq_t, gEq_f, gIx_nat, gIx_id, gIf, cond_true, cond_false, gCi_some, gCv_some, gCr_some, gB01_0, gB01_1, gBi_01, gU_same, gU_off, gW_id, Int.toNat_natCast, Int.toNat_add, Int.toNat_mul, Int.reduceToNat, Nat.add_zero, Int.add_zero, bI_eq0, bI_B, Bool.not_true, Bool.not_false, bI_t, bI_f]
        · simp (disch := omega) only [gInb_t, gLt_t, gLt_f, gEq_t, gEq_f, gIx_nat, gIx_id, gIf, cond_true, cond_false, gCi_some, gCv_some, gCr_some, gB01_0, gB01_1, gBi_01, gU_same, gU_off, gW_id, Int.toNat_natCast, Int.toNat_add, Int.toNat_mul, Int.reduceToNat, Nat.add_zero, Int.add_zero, bI_eq0, bI_B, Bool.not_true, Bool.not_false, bI_t, bI_f]
      · have x1 := s_hasPlace N (d + 18) e i (M 88 e) M he hi g3 ⟨g1, g2⟩
        have y1 := s_noPlace N (d + 17) e i (M 88 e) M he hi rfl ⟨by omega, g2⟩
        rw [if_neg (by omega)] at y1
        rw [x1, gCi_some, g0] at c3
        rw [y1, gCi_some] at c2
        by_cases hr : 0 ≤ i ∧ i < M 88 e
        · rw [decide_eq_true hr] at c3
          rw [if_pos hr] at c2
          obtain ⟨k, rfl⟩ : ∃ k : Nat, i = (k : Int) := ⟨i.toNat, by omega⟩
          have hk : k < 10 := by omega
          obtain ⟨o1, o2, o3, o4, o5, o6⟩ := d2 k hk
          rw [gIx_e (x := (k : Int)) (n := k) rfl (by omega)] at c3
          rw [gIx_e (x := 10 * (e : Int) + (k : Int)) (n := 10 * e + k) (by omega) (by omega), o3, o5] at c2
          by_cases h3 : M (70 + 3 * e) k = 3
          · rw [if_pos h3] at c2
            refine kPair_ro (-13) hI (c3.trans ?_) (c2.trans ?_)
            · simp (disch := omega) only [gInb_t, gLt_t, gLt_f, gEq_t, gEq_f, gIx_nat, gIx_id, gIf, cond_true, cond_false, gCi_some, gCv_some, gCr_some, gB01_0, gB01_1, gBi_01, gU_same, gU_off, gW_id, Int.toNat_natCast, Int.toNat_add, Int.toNat_mul, Int.reduceToNat, Nat.add_zero, Int.add_zero, bI_eq0, bI_B, Bool.not_true, Bool.not_false, bI_t, bI_f]
            · simp (disch := omega) only [gInb_t, gLt_t, gLt_f, gEq_t, gEq_f, gIx_nat, gIx_id, gIf, cond_true, cond_false, gCi_some, gCv_some, gCr_some, gB01_0, gB01_1, gBi_01, gU_same, gU_off, gW_id, Int.toNat_natCast, Int.toNat_add, Int.toNat_mul, Int.reduceToNat, Nat.add_zero, Int.add_zero, bI_eq0, bI_B, Bool.not_true, Bool.not_false, bI_t, bI_f]
          · rw [if_neg h3] at c2
            by_cases h4 : M (70 + 3 * e) k = w
            · by_cases h5 : w = 0
              · refine kPair_ro (M (71 + 3 * e) k + (((50000 : Nat) : Int))) hI (c3.trans ?_) (c2.trans ?_)
                · simp (disch := omega) only [gInb_t, gLt_t, gLt_f, gEq_t, gEq_f, gIx_nat, gIx_id, gIf, cond_true, cond_false, gCi_some, gCv_some, gCr_some, gB01_0, gB01_1, gBi_01, gU_same, gU_off, gW_id, Int.toNat_natCast, Int.toNat_add, Int.toNat_mul, Int.reduceToNat, Nat.add_zero, Int.add_zero, bI_eq0, bI_B, Bool.not_true, Bool.not_false, bI_t, bI_f]
                · simp (disch := omega) only [gInb_t, gLt_t, gLt_f, gEq_t, gEq_f, gIx_nat, gIx_id, gIf, cond_true, cond_false, gCi_some, gCv_some, gCr_some, gB01_0, gB01_1, gBi_01, gU_same, gU_off, gW_id, Int.toNat_natCast, Int.toNat_add, Int.toNat_mul, Int.reduceToNat, Nat.add_zero, Int.add_zero, bI_eq0, bI_B, Bool.not_true, Bool.not_false, bI_t, bI_f]
              · refine kPair_ro (M (71 + 3 * e) k) hI (c3.trans ?_) (c2.trans ?_)
                · simp (disch := omega) only [gInb_t, gLt_t, gLt_f, gEq_t, gEq_f, gIx_nat, gIx_id, gIf, cond_true, cond_false, gCi_some, gCv_some, gCr_some, gB01_0, gB01_1, gBi_01, gU_same, gU_off, gW_id, Int.toNat_natCast, Int.toNat_add, Int.toNat_mul, Int.reduceToNat, Nat.add_zero, Int.add_zero, bI_eq0, bI_B, Bool.not_true, Bool.not_false, bI_t, bI_f]
                · simp (disch := omega) only [gInb_t, gLt_t, gLt_f, gEq_t, gEq_f, gIx_nat, gIx_id, gIf, cond_true, cond_false, gCi_some, gCv_some, gCr_some, gB01_0, gB01_1, gBi_01, gU_same, gU_off, gW_id, Int.toNat_natCast, Int.toNat_add, Int.toNat_mul, Int.reduceToNat, Nat.add_zero, Int.add_zero, bI_eq0, bI_B, Bool.not_true, Bool.not_false, bI_t, bI_f]
            · refine kPair_ro (-14) hI (c3.trans ?_) (c2.trans ?_)
              · simp (disch := omega) only [gInb_t, gLt_t, gLt_f, gEq_t, gEq_f, gIx_nat, gIx_id, gIf, cond_true, cond_false, gCi_some, gCv_some, gCr_some, gB01_0, gB01_1, gBi_01, gU_same, gU_off, gW_id, Int.toNat_natCast, Int.toNat_add, Int.toNat_mul, Int.reduceToNat, Nat.add_zero, Int.add_zero, bI_eq0, bI_B, Bool.not_true, Bool.not_false, bI_t, bI_f]
              · simp (disch := omega) only [gInb_t, gLt_t, gLt_f, gEq_t, gEq_f, gIx_nat, gIx_id, gIf, cond_true, cond_false, gCi_some, gCv_some, gCr_some, gB01_0, gB01_1, gBi_01, gU_same, gU_off, gW_id, Int.toNat_natCast, Int.toNat_add, Int.toNat_mul, Int.reduceToNat, Nat.add_zero, Int.add_zero, bI_eq0, bI_B, Bool.not_true, Bool.not_false, bI_t, bI_f]
        · rw [decide_eq_false hr] at c3
          rw [if_neg hr] at c2
          refine kPair_ro (-12) hI (c3.trans ?_) (c2.trans ?_)
          · simp (disch := omega) only [gInb_t, gLt_t, gLt_f, gEq_t, gEq_f, gIx_nat, gIx_id, gIf, cond_true, cond_false, gCi_some, gCv_some, gCr_some, gB01_0, gB01_1, gBi_01, gU_same, gU_off, gW_id, Int.toNat_natCast, Int.toNat_add, Int.toNat_mul, Int.reduceToNat, Nat.add_zero, Int.add_zero, bI_eq0, bI_B, Bool.not_true, Bool.not_false, bI_t, bI_f]
          · simp (disch := omega) only [gInb_t, gLt_t, gLt_f, gEq_t, gEq_f, gIx_nat, gIx_id, gIf, cond_true, cond_false, gCi_some, gCv_some, gCr_some, gB01_0, gB01_1, gBi_01, gU_same, gU_off, gW_id, Int.toNat_natCast, Int.toNat_add, Int.toNat_mul, Int.reduceToNat, Nat.add_zero, Int.add_zero, bI_eq0, bI_B, Bool.not_true, Bool.not_false, bI_t, bI_f]
    · rw [decide_eq_false h1] at c1 c2
      refine kPair_ro (-3) hI (c1.trans ?_) (c2.trans ?_)
      · simp (disch := omega) only [gInb_t, gLt_t, gLt_f, gEq_t, gEq_f, gIx_nat, gIx_id, gIf, cond_true, cond_false, gCi_some, gCv_some, gCr_some, gB01_0, gB01_1, gBi_01, gU_same, gU_off, gW_id, Int.toNat_natCast, Int.toNat_add, Int.toNat_mul, Int.reduceToNat, Nat.add_zero, Int.add_zero, bI_eq0, bI_B, Bool.not_true, Bool.not_false, bI_t, bI_f]
      · simp (disch := omega) only [gInb_t, gLt_t, gLt_f, gEq_t, gEq_f, gIx_nat, gIx_id, gIf, cond_true, cond_false, gCi_some, gCv_some, gCr_some, gB01_0, gB01_1, gBi_01, gU_same, gU_off, gW_id, Int.toNat_natCast, Int.toNat_add, Int.toNat_mul, Int.reduceToNat, Nat.add_zero, Int.add_zero, bI_eq0, bI_B, Bool.not_true, Bool.not_false, bI_t, bI_f]
  · rw [decide_eq_false h0] at c1 c2
    refine kPair_ro (-2) hI (c1.trans ?_) (c2.trans ?_)
    · simp (disch := omega) only [gInb_t, gLt_t, gLt_f, gEq_t, gEq_f, gIx_nat, gIx_id, gIf, cond_true, cond_false, gCi_some, gCv_some, gCr_some, gB01_0, gB01_1, gBi_01, gU_same, gU_off, gW_id, Int.toNat_natCast, Int.toNat_add, Int.toNat_mul, Int.reduceToNat, Nat.add_zero, Int.add_zero, bI_eq0, bI_B, Bool.not_true, Bool.not_false, bI_t, bI_f]
    · simp (disch := omega) only [gInb_t, gLt_t, gLt_f, gEq_t, gEq_f, gIx_nat, gIx_id, gIf, cond_true, cond_false, gCi_some, gCv_some, gCr_some, gB01_0, gB01_1, gBi_01, gU_same, gU_off, gW_id, Int.toNat_natCast, Int.toNat_add, Int.toNat_mul, Int.reduceToNat, Nat.add_zero, Int.add_zero, bI_eq0, bI_B, Bool.not_true, Bool.not_false, bI_t, bI_f]
/-- how many places have something -/
theorem l_things (C : gCl) (e m : Nat) (M : gM) (he : e < 4) (hm : m ≤ 10) (h1 : M (69 + 3 * e) 1 = (m : Int)) (hs : ∀ i, i < 10 → 0 ≤ M (70 + 3 * e) i ∧ M (70 + 3 * e) i ≤ 3) : ∀ (r k z a : Nat), k + r = m → r < z → L_X0_howManyThings_4 C z (69 + 3 * e) (a : Int) (k : Int) M = some (M, some (.inl ((a + cB (fun i => !(decide (M (70 + 3 * e) i = 3))) k r : Nat) : Int))) := by
  intro r
  induction r with
  | zero =>
    intro k z a hk hz
    obtain ⟨z, rfl⟩ : ∃ y, z = y + 1 := ⟨z - 1, by omega⟩
    rw [q_X0_howManyThings_4 _ _ _ _ _ _ (dPl he), h1]
    simp (disch := omega) only [gInb_t, gLt_t, gLt_f, gEq_t, gEq_f, gIx_nat, gIx_id, gIf, cond_true, cond_false, gCi_some, gCv_some, gCr_some, gB01_0, gB01_1, gBi_01, gU_same, gU_off, gW_id, Int.toNat_natCast, Int.toNat_add, Int.toNat_mul, Int.reduceToNat, Nat.add_zero, Int.add_zero, cB]
  | succ r ih =>
    intro k z a hk hz
    obtain ⟨z, rfl⟩ : ∃ y, z = y + 1 := ⟨z - 1, by omega⟩
    have o := hs k (by omega)
    rw [q_X0_howManyThings_4 _ _ _ _ _ _ (dPl he), h1, gIx_e (x := (k : Int)) (n := k) rfl (by omega), show 69 + 3 * e + 1 = 70 + 3 * e by omega, cast_1 k, cast_1 a, ih (k + 1) z _ (by omega) (by omega), ih (k + 1) z _ (by omega) (by omega)]
    simp only [cB]
    by_cases h : M (70 + 3 * e) k = 3
    · simp (disch := omega) only [gInb_t, gLt_t, gLt_f, gEq_t, gEq_f, gIx_nat, gIx_id, gIf, cond_true, cond_false, gCi_some, gCv_some, gCr_some, gB01_0, gB01_1, gBi_01, gU_same, gU_off, gW_id, Int.toNat_natCast, Int.toNat_add, Int.toNat_mul, Int.reduceToNat, Nat.add_zero, Int.add_zero]
      simp [h]
    · simp (disch := omega) only [gInb_t, gLt_t, gLt_f, gEq_t, gEq_f, gIx_nat, gIx_id, gIf, cond_true, cond_false, gCi_some, gCv_some, gCr_some, gB01_0, gB01_1, gBi_01, gU_same, gU_off, gW_id, Int.toNat_natCast, Int.toNat_add, Int.toNat_mul, Int.reduceToNat, Nat.add_zero, Int.add_zero]
      simp [h, Nat.add_assoc]
theorem l_mdrop (C : gCl) (e m : Nat) (M : gM) (he : e < 4) (hm : m ≤ 10) (h1 : M 88 e = (m : Int)) (f : Nat → Bool) (hs : ∀ i, i < 10 → rng (M 89 (10 * e + i)) ∧ (M 89 (10 * e + i) = -1 ↔ f i = false)) : ∀ (r k z a : Nat), k + r = m → r < z → L_X10_drop_26 C z (e : Int) (a : Int) (k : Int) M = some (gU M 88 e (-1), some (.inl ((a + cB f k r : Nat) : Int))) := by
  intro r
  have ie := gIx_e (x := (e : Int)) (n := e) rfl (by omega)
  induction r with
  | zero =>
    intro k z a hk hz
    obtain ⟨z, rfl⟩ : ∃ y, z = y + 1 := ⟨z - 1, by omega⟩
    rw [q_X10_drop_26, ie, h1]
    simp (disch := omega) only [gInb_t, gLt_t, gLt_f, gEq_t, gEq_f, gIx_nat, gIx_id, gIf, cond_true, cond_false, gCi_some, gCv_some, gCr_some, gB01_0, gB01_1, gBi_01, gU_same, gU_off, gW_id, Int.toNat_natCast, Int.toNat_add, Int.toNat_mul, Int.reduceToNat, Nat.add_zero, Int.add_zero, cB]
  | succ r ih =>
    intro k z a hk hz
    obtain ⟨z, rfl⟩ : ∃ y, z = y + 1 := ⟨z - 1, by omega⟩
    obtain ⟨⟨o1, o2⟩, o3⟩ := hs k (by omega)
    rw [q_X10_drop_26, ie, h1, gIx_e (x := 10 * (e : Int) + (k : Int)) (n := 10 * e + k) (by omega) (by omega), cast_1 k, cast_1 a, Int.add_zero, ih (k + 1) z _ (by omega) (by omega), ih (k + 1) z _ (by omega) (by omega)]
    simp only [cB]
    cases hf : f k with
    | false =>
      have := o3.mpr hf
      simp (disch := omega) only [gInb_t, gLt_t, gLt_f, gEq_t, gEq_f, gIx_nat, gIx_id, gIf, cond_true, cond_false, gCi_some, gCv_some, gCr_some, gB01_0, gB01_1, gBi_01, gU_same, gU_off, gW_id, Int.toNat_natCast, Int.toNat_add, Int.toNat_mul, Int.reduceToNat, Nat.add_zero, Int.add_zero]
      simp
    | true =>
      have : M 89 (10 * e + k) ≠ -1 := fun q => by
        have := o3.mp q
        rw [hf] at this
        cases this
      simp (disch := omega) only [gInb_t, gLt_t, gLt_f, gEq_t, gEq_f, gIx_nat, gIx_id, gIf, cond_true, cond_false, gCi_some, gCv_some, gCr_some, gB01_0, gB01_1, gBi_01, gU_same, gU_off, gW_id, Int.toNat_natCast, Int.toNat_add, Int.toNat_mul, Int.reduceToNat, Nat.add_zero, Int.add_zero]
      simp [Nat.add_assoc]
theorem p_drop (N d : Nat) (a : Int) (M : gM) (hN : 100000 ≤ N) (hI : kInv M) (ha : rng a) : kPair N (d + 20) 85 169 [.inl a] M := by
  obtain ⟨n, K, t, F, G, c, A, B, c', A', B', l, s, h⟩ := id hI
  obtain ⟨hP, hW, hT, hQ, hQ', hX, hU, hKp, hS, hD, hw, hz⟩ := id h
  have hn := hP.1
  have h6 := hP.2.1
  have m29 := hP.2.2.1
  have hKx := iPpl_kx hP
  have hKm := iPpl_km hP
  obtain ⟨hOk, hG8, hH0⟩ := id hW
  have c1 := q_X9_drop N (d + 19) a M
  rw [s_xdr _ _ _ _ ha, gCi_some] at c1
  by_cases h0 : 0 ≤ a ∧ a ≤ 3
  · rw [decide_eq_true h0] at c1
    obtain ⟨e, rfl⟩ : ∃ e : Nat, a = (e : Int) := ⟨a.toNat, by omega⟩
    have he : e < 4 := by omega
    have c3 : gEv N (d + 20) 85 [.inr (.inr 1), .inl (e : Int)] M = cond (gEq (M (69 + 3 * e) 0) 0) (some (M, some (.inl (-11)))) (gCi (gEv N (d + 19) 3 [.inr (.inr (70 + 3 * e))] M) (fun M3 r4 => gIf (gB01 0) (some (gU M3 (69 + 3 * e) 0 0, some (.inl r4))))) := by
      refine c1.trans ?_
      rcases (by omega : e = 0 ∨ e = 1 ∨ e = 2 ∨ e = 3) with rfl | rfl | rfl | rfl
      · simp (disch := omega) only [gEq_f, gEq_t, cond_false, cond_true, gInb_t, gIf_t, bI_eq0, Bool.not_true]
      · simp (disch := omega) only [gEq_f, gEq_t, cond_false, cond_true, gInb_t, gIf_t, bI_eq0, Bool.not_true]
      · simp (disch := omega) only [gEq_f, gEq_t, cond_false, cond_true, gInb_t, gIf_t, bI_eq0, Bool.not_true]
      · simp (disch := omega) only [gEq_f, gEq_t, cond_false, cond_true, gInb_t, gIf_t, bI_eq0, Bool.not_true]
    obtain ⟨d1, d2⟩ := hD e he
    rcases d1 with ⟨g0, g1⟩ | ⟨g0, g1, g2, g3⟩
    · rw [g0] at c3
      refine kPair_ro (-11) hI (c3.trans ?_) ?_
      · simp (disch := omega) only [gInb_t, gLt_t, gLt_f, gEq_t, gEq_f, gIx_nat, gIx_id, gIf, cond_true, cond_false, gCi_some, gCv_some, gCr_some, gB01_0, gB01_1, gBi_01, gU_same, gU_off, gW_id, Int.toNat_natCast, Int.toNat_add, Int.toNat_mul, Int.reduceToNat, Nat.add_zero, Int.add_zero, bI_eq0, bI_B, Bool.not_true, Bool.not_false, bI_t, bI_f]
      · rw [q_X10_drop, s_mdr _ _ _ _ ha, gCi_some, decide_eq_true h0, gIx_e (x := (e : Int)) (n := e) rfl (by omega), g1]; simp (disch := omega) only [gInb_t, gLt_t, gLt_f, gEq_t, gEq_f, gIx_nat, gIx_id, gIf, cond_true, cond_false, gCi_some, gCv_some, gCr_some, gB01_0, gB01_1, gBi_01, gU_same, gU_off, gW_id, Int.toNat_natCast, Int.toNat_add, Int.toNat_mul, Int.reduceToNat, Nat.add_zero, Int.add_zero, bI_eq0, bI_B, Bool.not_true, Bool.not_false, bI_t, bI_f]
    · obtain ⟨m, hm⟩ : ∃ m : Nat, M 88 e = (m : Int) := ⟨(M 88 e).toNat, by omega⟩
      have l1 := l_things (gEv N (d + 18)) e m M he (by omega) (g3.trans hm) (fun i hi => ⟨(d2 i hi).1, (d2 i hi).2.1⟩) m 0 N 0 (by omega) (by omega)
      have l2 : gEv N (d + 19) 3 [.inr (.inr (70 + 3 * e))] M = some (M, some (.inl ((0 + cB (fun i => !(decide (M (70 + 3 * e) i = 3))) 0 m : Nat) : Int))) := by
        have q := (q_X0_howManyThings N (d + 18) (69 + 3 * e) M (dPl he)).trans l1
        rw [show 69 + 3 * e + 1 = 70 + 3 * e by omega] at q
        exact q
      rw [l2, gCi_some, g0] at c3
      have e1 : gEv N (d + 20) 85 [.inr (.inr 1), .inl (e : Int)] M = some (gU M (69 + 3 * e) 0 0, some (.inl ((0 + cB (fun i => !(decide (M (70 + 3 * e) i = 3))) 0 m : Nat) : Int))) := by
        refine c3.trans ?_
        simp (disch := omega) only [gInb_t, gLt_t, gLt_f, gEq_t, gEq_f, gIx_nat, gIx_id, gIf, cond_true, cond_false, gCi_some, gCv_some, gCr_some, gB01_0, gB01_1, gBi_01, gU_same, gU_off, gW_id, Int.toNat_natCast, Int.toNat_add, Int.toNat_mul, Int.reduceToNat, Nat.add_zero, Int.add_zero, bI_eq0, bI_B, Bool.not_true, Bool.not_false, bI_t, bI_f]
      have fb : ∀ q i, ¬ (q = 69 + 3 * e ∧ i = 0) → gU M (69 + 3 * e) 0 0 q i = M q i := fun q i hq => gU_off _ _ hq
      have b0 : gU M (69 + 3 * e) 0 0 (69 + 3 * e) 0 = 0 := gU_same _ _ _ _
      generalize gU M (69 + 3 * e) 0 0 = Mb at e1 fb b0
      have l3 := l_mdrop (gEv N (d + 19)) e m Mb he (by omega) ((fb _ _ (by omega)).trans hm) (fun i => !(decide (M (70 + 3 * e) i = 3))) (fun i hi => by
        obtain ⟨o1, o2, o3, o4, o5, o6⟩ := d2 i hi
        rw [fb _ _ (by omega), o3]
        by_cases h3 : M (70 + 3 * e) i = 3
        · rw [if_pos h3, decide_eq_true h3]
          exact ⟨(rng_c (by omega) (by omega)), by simp⟩
        · rw [if_neg h3, decide_eq_false h3]
          exact ⟨(rng_c (by omega) (by omega)), by simp; omega⟩) m 0 N 0 (by omega) (by omega)
      have e2 : gEv N (d + 20) 169 [.inr (.inr 82), .inl (e : Int)] Mb = some (gU Mb 88 e (-1), some (.inl ((0 + cB (fun i => !(decide (M (70 + 3 * e) i = 3))) 0 m : Nat) : Int))) := by
        refine (q_X10_drop N (d + 19) (e : Int) Mb).trans ?_
        rw [s_mdr _ _ _ _ ha, gCi_some, decide_eq_true h0, gIx_e (x := (e : Int)) (n := e) rfl (by omega), fb 88 e (by omega), hm]
        refine Eq.trans ?_ l3
        simp (disch := omega) only [gInb_t, gLt_t, gLt_f, gEq_t, gEq_f, gIx_nat, gIx_id, gIf, cond_true, cond_false, gCi_some, gCv_some, gCr_some, gB01_0, gB01_1, gBi_01, gU_same, gU_off, gW_id, Int.toNat_natCast, Int.toNat_add, Int.toNat_mul, Int.reduceToNat, Nat.add_zero, Int.add_zero, bI_eq0, bI_B, Bool.not_true, Bool.not_false, bI_t, bI_f]
        rfl
      refine ⟨_, _, _, e1, e2, fun i => fb _ _ (by omega), fb _ _ (by omega), n, K, t, F, G, c, A, B, c', A', B', l, s, kI_drs (iDrs_one he hD ⟨Or.inl ⟨?_, gU_same _ _ _ _⟩, fun i hi => ?_⟩ (fun q i hq _ => ?_)) h (fun q i hq => ?_)⟩
      · rw [gU_off _ _ (by omega)]; exact b0
      · rw [gU_off _ _ (by omega), gU_off _ _ (by omega), gU_off _ _ (by omega), gU_off _ _ (by omega), gU_off _ _ (by omega), b0, fb _ _ (by omega), fb _ _ (by omega), fb _ _ (by omega), fb _ _ (by omega)]
        obtain ⟨o1, o2, o3, o4, o5, o6⟩ := d2 i hi
        exact ⟨o1, o2, o3, o4, o5, fun q => absurd q (by omega)⟩
      · rw [gU_off _ _ (by omega), fb _ _ (by omega)]
      · rw [gU_off _ _ (by omega), fb _ _ (by omega)]
  · rw [decide_eq_false h0] at c1
    refine kPair_ro (-2) hI (c1.trans ?_) ?_
    · simp (disch := omega) only [gInb_t, gLt_t, gLt_f, gEq_t, gEq_f, gIx_nat, gIx_id, gIf, cond_true, cond_false, gCi_some, gCv_some, gCr_some, gB01_0, gB01_1, gBi_01, gU_same, gU_off, gW_id, Int.toNat_natCast, Int.toNat_add, Int.toNat_mul, Int.reduceToNat, Nat.add_zero, Int.add_zero, bI_eq0, bI_B, Bool.not_true, Bool.not_false, bI_t, bI_f]
    · rw [q_X10_drop, s_mdr _ _ _ _ ha, gCi_some, decide_eq_false h0]; simp (disch := omega) only [gInb_t, gLt_t, gLt_f, gEq_t, gEq_f, gIx_nat, gIx_id, gIf, cond_true, cond_false, gCi_some, gCv_some, gCr_some, gB01_0, gB01_1, gBi_01, gU_same, gU_off, gW_id, Int.toNat_natCast, Int.toNat_add, Int.toNat_mul, Int.reduceToNat, Nat.add_zero, Int.add_zero, bI_eq0, bI_B, Bool.not_true, Bool.not_false, bI_t, bI_f]
