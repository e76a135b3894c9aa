-- 56: write, erase, forget, unpair, pair, seen, count
theorem p_write (N d : Nat) (a : Int) (M : gM) (hN : 100000 ≤ N) (hI : kInv M) (ha : rng a) : kPair N (d + 20) 53 100 [.inl a] M := by
  obtain ⟨n, K, t, F, G, c, A, B, c', A', B', l, s, h⟩ := id hI
  obtain ⟨hP, hW, hT, hQ, hQ', hX, hU, hKp, hS, hD, hw, hz⟩ := id h
  have hn := hP.1
  have h6 := hP.2.1
  have m29 := hP.2.2.1
  have hKx := iPpl_kx hP
  have hKm := iPpl_km hP
  obtain ⟨hOk, hG8, hH0⟩ := id hW
  obtain ⟨x1, x2, x3, x4⟩ := id hX
  have c1 : gEv N (d + 20) 53 [.inr (.inr 1), .inl a] M = _ := s_X9_write N (d + 18) a M ha (by omega) (by omega)
  by_cases h0 : 0 ≤ a ∧ a ≤ 255
  · by_cases h1 : l < 200
    · rw [if_pos h0, if_pos (by omega), x2, Int.toNat_natCast] at c1
      have e81 : gU (gU M 2 l a) 1 1 ((l : Int) + 1) 81 4 = (l : Int) := by simp (disch := omega) only [gU_same, gU_off, x3]
      have c2 : gEv N (d + 20) 100 [.inr (.inr 82), .inl a] (gU (gU M 2 l a) 1 1 ((l : Int) + 1)) = _ := s_X10_write N (d + 18) a _ ha (by omega) (by omega)
      rw [if_pos h0, if_pos (by omega), e81, Int.toNat_natCast] at c2
      refine ⟨_, _, _, c1, c2, fun i => by simp (disch := omega) only [gU_same, gU_off], by simp (disch := omega) only [gU_same, gU_off], n, K, t, F, G, c, A, B, c', A', B', l + 1, s, kI_txt ⟨by omega, by simp (disch := omega) only [gU_same, gU_off]; omega, by simp (disch := omega) only [gU_same, gU_off]; omega, fun j hj => ?_⟩ h (fun q i hq => ?_)⟩
      · by_cases hj2 : j = l
        · subst hj2
          simp (disch := omega) only [gU_same, gU_off]
          exact ⟨h0.1, h0.2, trivial⟩
        · simp (disch := omega) only [gU_same, gU_off]
          exact x4 j (by omega)
      · unfold kScr at hq
        simp (disch := omega) only [gU_same, gU_off]
    · rw [if_pos h0, if_neg (by omega)] at c1
      have c2 : gEv N (d + 20) 100 [.inr (.inr 82), .inl a] M = _ := s_X10_write N (d + 18) a _ ha (by omega) (by omega)
      rw [if_pos h0, if_neg (by omega)] at c2
      exact kPair_ro (-5) hI c1 c2
  · rw [if_neg h0] at c1
    have c2 : gEv N (d + 20) 100 [.inr (.inr 82), .inl a] M = _ := s_X10_write N (d + 18) a _ ha (by omega) (by omega)
    rw [if_neg h0] at c2
    exact kPair_ro (-3) hI c1 c2
theorem p_erase (N d : Nat) (M : gM) (hI : kInv M) : kPair N (d + 20) 54 101 [] M := by
  obtain ⟨n, K, t, F, G, c, A, B, c', A', B', l, s, h⟩ := id hI
  obtain ⟨hP, hW, hT, hQ, hQ', hX, hU, hKp, hS, hD, hw, hz⟩ := id h
  have hn := hP.1
  have h6 := hP.2.1
  have m29 := hP.2.2.1
  have hKx := iPpl_kx hP
  have hKm := iPpl_km hP
  obtain ⟨hOk, hG8, hH0⟩ := id hW
  obtain ⟨x1, x2, x3, x4⟩ := id hX
  have c1 : gEv N (d + 20) 54 [.inr (.inr 1)] M = _ := q_X9_erase N (d + 19) M
  have c2 : gEv N (d + 20) 101 [.inr (.inr 82)] (gU M 1 1 0) = _ := q_X10_erase N (d + 19) _
  have e : gU M 1 1 0 81 4 = M 1 1 := by simp (disch := omega) only [gU_same, gU_off]; omega
  rw [e] at c2
  refine ⟨_, _, _, c1, c2, fun i => by simp (disch := omega) only [gU_same, gU_off], by simp (disch := omega) only [gU_same, gU_off], n, K, t, F, G, c, A, B, c', A', B', 0, s, kI_txt ⟨by omega, by simp (disch := omega) only [gU_same, gU_off]; omega, by simp (disch := omega) only [gU_same, gU_off]; omega, fun j hj => by omega⟩ h (fun q i hq => ?_)⟩
  unfold kScr at hq
  simp (disch := omega) only [gU_same, gU_off]
theorem p_forget (N d : Nat) (M : gM) (hI : kInv M) : kPair N (d + 20) 78 157 [] M := by
  obtain ⟨n, K, t, F, G, c, A, B, c', A', B', l, s, h⟩ := id hI
  obtain ⟨hP, hW, hT, hQ, hQ', hX, hU, hKp, hS, hD, hw, hz⟩ := id h
  have hn := hP.1
  have h6 := hP.2.1
  have m29 := hP.2.2.1
  have hKx := iPpl_kx hP
  have hKm := iPpl_km hP
  obtain ⟨hOk, hG8, hH0⟩ := id hW
  obtain ⟨x1, x2, x3, x4⟩ := id hS
  have c1 : gEv N (d + 20) 78 [.inr (.inr 1)] M = _ := q_X9_forget N (d + 19) M
  have c2 : gEv N (d + 20) 157 [.inr (.inr 82)] (gU M 54 0 0) = _ := q_X10_forget N (d + 19) _
  have e : gU M 54 0 0 81 5 = M 54 0 := by simp (disch := omega) only [gU_same, gU_off]; omega
  rw [e] at c2
  refine ⟨_, _, _, c1, c2, fun i => by simp (disch := omega) only [gU_same, gU_off], by simp (disch := omega) only [gU_same, gU_off], n, K, t, F, G, c, A, B, c', A', B', l, 0, kI_see ⟨by omega, by simp (disch := omega) only [gU_same, gU_off]; omega, by simp (disch := omega) only [gU_same, gU_off]; omega, fun j hj => by omega⟩ h (fun q i hq => ?_)⟩
  unfold kScr at hq
  simp (disch := omega) only [gU_same, gU_off]
theorem p_unpair (N d : Nat) (M : gM) (hI : kInv M) : kPair N (d + 20) 61 132 [] M := by
  obtain ⟨n, K, t, F, G, c, A, B, c', A', B', l, s, h⟩ := id hI
  obtain ⟨hP, hW, hT, hQ, hQ', hX, hU, hKp, hS, hD, hw, hz⟩ := id h
  have hn := hP.1
  have h6 := hP.2.1
  have m29 := hP.2.2.1
  have hKx := iPpl_kx hP
  have hKm := iPpl_km hP
  obtain ⟨hOk, hG8, hH0⟩ := id hW
  obtain ⟨x1, x2, x3, x4⟩ := id hQ
  rw [Nat.zero_add] at x3
  have c1 : gEv N (d + 20) 61 [.inr (.inr 1)] M = _ := q_X9_unpair N (d + 19) M
  have c2 : gEv N (d + 20) 132 [.inr (.inr 82)] (gU M 14 0 0) = _ := q_X10_unpair N (d + 19) _
  rw [gIx_e (x := 37) (n := 37) rfl (by omega)] at c2
  have e : gU M 14 0 0 82 37 = M 14 0 := by simp (disch := omega) only [gU_same, gU_off]; omega
  rw [e, gInb_t (by omega) (by omega) (by omega), gIf_t, gIf_t] at c2
  refine ⟨_, _, _, c1, c2, fun i => by simp (disch := omega) only [gU_same, gU_off], by simp (disch := omega) only [gU_same, gU_off], n, K, t, F, G, 0, A, B, c', A', B', l, s, kI_prs (A2 := A) (B2 := B) ⟨by omega, by simp (disch := omega) only [gU_same, gU_off]; omega, by simp (disch := omega) only [gU_same, gU_off]; omega, fun j hj => by omega⟩ h (fun q i hq => ?_)⟩
  unfold kScr at hq
  simp (disch := omega) only [gU_same, gU_off]
theorem p_pair (N d : Nat) (a b : Int) (M : gM) (hN : 100000 ≤ N) (hI : kInv M) (ha : rng a) (hb : rng b) : kPair N (d + 20) 60 131 [.inl a, .inl b] M := by
  obtain ⟨n, K, t, F, G, c, A, B, c', A', B', l, s, h⟩ := id hI
  obtain ⟨hP, hW, hT, hQ, hQ', hX, hU, hKp, hS, hD, hw, hz⟩ := id h
  have hn := hP.1
  have h6 := hP.2.1
  have m29 := hP.2.2.1
  have hKx := iPpl_kx hP
  have hKm := iPpl_km hP
  obtain ⟨hOk, hG8, hH0⟩ := id hW
  obtain ⟨x1, x2, x3, x4⟩ := id hQ
  have h37 : gIx 37 = 37 := gIx_e (n := 37) rfl (by omega)
  have c1 : gEv N (d + 20) 60 [.inr (.inr 1), .inl a, .inl b] M = _ := q_X9_pair N (d + 19) _ _ M
  rw [s_xtwo _ _ n _ _ _ hn h6 ha hb, gCi_some] at c1
  by_cases h0 : (0 ≤ a ∧ a < (n : Int)) ∧ (0 ≤ b ∧ b < (n : Int)) ∧ a ≠ b
  · rw [decide_eq_true h0] at c1
    obtain ⟨p, rfl⟩ : ∃ p : Nat, a = (p : Int) := ⟨a.toNat, by omega⟩
    obtain ⟨o, rfl⟩ : ∃ o : Nat, b = (o : Int) := ⟨b.toNat, by omega⟩
    by_cases h1 : c < 12
    · have e1 : gEv N (d + 20) 60 [.inr (.inr 1), .inl (p : Int), .inl (o : Int)] M = some (gU (gU (gU M 15 c (p : Int)) 16 c (o : Int)) 14 0 ((c : Int) + 1), some (.inl ((c : Int) + 1))) := by
        refine c1.trans ?_
        have := q_X4_append N (d + 18) 14 (p : Int) (o : Int) M (Or.inl rfl)
        rw [x2] at this
        have e2 : gEv N (d + 19) 23 [.inr (.inr 15), .inl (p : Int), .inl (o : Int)] M = some (gU (gU (gU M 15 c (p : Int)) 16 c (o : Int)) 14 0 ((c : Int) + 1), none) := by
          refine this.trans ?_
          simp (disch := omega) only [gInb_t, gLt_t, gLt_f, gEq_t, gEq_f, gIx_nat, gIx_id, gIf, cond_true, cond_false, gCi_some, gCv_some, gCr_some, gB01_0, gB01_1, gBi_01, gU_same, gU_off, gW_id, Int.toNat_natCast, Int.toNat_add, Int.toNat_mul, Int.reduceToNat, Nat.add_zero, Int.add_zero, bI_eq0, bI_B, Bool.not_true, Bool.not_false, bI_t, bI_f, gU_off, x2]
        rw [e2, gCv_some, x2]
        simp (disch := omega) only [gInb_t, gLt_t, gLt_f, gEq_t, gEq_f, gIx_nat, gIx_id, gIf, cond_true, cond_false, gCi_some, gCv_some, gCr_some, gB01_0, gB01_1, gBi_01, gU_same, gU_off, gW_id, Int.toNat_natCast, Int.toNat_add, Int.toNat_mul, Int.reduceToNat, Nat.add_zero, Int.add_zero, bI_eq0, bI_B, Bool.not_true, Bool.not_false, bI_t, bI_f]
      have c2 : gEv N (d + 20) 131 [.inr (.inr 82), .inl (p : Int), .inl (o : Int)] (gU (gU (gU M 15 c (p : Int)) 16 c (o : Int)) 14 0 ((c : Int) + 1)) = _ := q_X10_pair N (d + 19) _ _ _
      generalize hM1 : gU (gU (gU M 15 c (p : Int)) 16 c (o : Int)) 14 0 ((c : Int) + 1) = M1 at e1 c2
      have f1 : ∀ q i, ¬ (q = 14 ∨ q = 15 ∨ q = 16) → M1 q i = M q i := fun q i hq => by rw [← hM1]; simp (disch := omega) only [gU_same, gU_off]
      have x3' : M1 82 37 = (c : Int) := by rw [f1 _ _ (by omega)]; exact x3
      rw [s_mtwo _ _ n _ _ _ hn (by rw [f1 _ _ (by omega)]; exact m29) ha hb, gCi_some, decide_eq_true h0, h37, x3', gIx_e (x := 38 + 2 * (c : Int)) (n := 38 + 2 * c) (by omega) (by omega)] at c2
      have e2 : gEv N (d + 20) 131 [.inr (.inr 82), .inl (p : Int), .inl (o : Int)] M1 = some (gU (gU (gU M1 82 (38 + 2 * c) (p : Int)) 82 (39 + 2 * c) (o : Int)) 82 37 ((c : Int) + 1), some (.inl ((c : Int) + 1))) := by
        refine c2.trans ?_
        have e4 : gU M1 82 (38 + 2 * c) (p : Int) 82 37 = (c : Int) := by simp (disch := omega) only [gU_same, gU_off, x3']
        rw [e4, gIx_e (x := 38 + 2 * (c : Int) + 1) (n := 39 + 2 * c) (by omega) (by omega)]
        have e5 : gU (gU M1 82 (38 + 2 * c) (p : Int)) 82 (39 + 2 * c) (o : Int) 82 37 = (c : Int) := by simp (disch := omega) only [gU_same, gU_off, x3']
        rw [e5, gU_same]
        simp (disch := omega) only [gInb_t, gLt_t, gLt_f, gEq_t, gEq_f, gIx_nat, gIx_id, gIf, cond_true, cond_false, gCi_some, gCv_some, gCr_some, gB01_0, gB01_1, gBi_01, gU_same, gU_off, gW_id, Int.toNat_natCast, Int.toNat_add, Int.toNat_mul, Int.reduceToNat, Nat.add_zero, Int.add_zero, bI_eq0, bI_B, Bool.not_true, Bool.not_false, bI_t, bI_f]
      refine ⟨_, _, _, e1, e2, fun i => f1 _ _ (by omega), f1 _ _ (by omega), n, K, t, F, G, c + 1, _, _, c', A', B', l, s, kI_prs (A2 := fun k => if k = c then p else A k) (B2 := fun k => if k = c then o else B k) ⟨by omega, ?_, ?_, fun k hk => ?_⟩ h (fun q i hq => ?_)⟩
      · subst hM1; simp (disch := omega) only [gU_same, gU_off]; omega
      · simp (disch := omega) only [gU_same, gU_off]; omega
      · subst hM1
        by_cases hk2 : k = c
        · subst hk2
          simp only [if_true]
          simp (disch := omega) only [gU_same, gU_off, Nat.zero_add]
          refine ⟨by omega, by omega, by omega, trivial, trivial, trivial, trivial⟩
        · simp only [if_neg hk2]
          obtain ⟨y1, y2, y3, y4, y5, y6, y7⟩ := x4 k (by omega)
          rw [Nat.zero_add] at y6 y7
          simp (disch := omega) only [gU_same, gU_off, Nat.zero_add]
          exact ⟨y1, y2, y3, y4, y5, y6, y7⟩
      · unfold kScr at hq
        subst hM1
        simp (disch := omega) only [gU_same, gU_off]
    · refine kPair_ro (-5) hI (c1.trans ?_) ?_
      · rw [x2]; simp (disch := omega) only [gInb_t, gLt_t, gLt_f, gEq_t, gEq_f, gIx_nat, gIx_id, gIf, cond_true, cond_false, gCi_some, gCv_some, gCr_some, gB01_0, gB01_1, gBi_01, gU_same, gU_off, gW_id, Int.toNat_natCast, Int.toNat_add, Int.toNat_mul, Int.reduceToNat, Nat.add_zero, Int.add_zero, bI_eq0, bI_B, Bool.not_true, Bool.not_false, bI_t, bI_f]
      · rw [q_X10_pair, s_mtwo _ _ n _ _ _ hn m29 ha hb, gCi_some, decide_eq_true h0, h37, x3]
        simp (disch := omega) only [gInb_t, gLt_t, gLt_f, gEq_t, gEq_f, gIx_nat, gIx_id, gIf, cond_true, cond_false, gCi_some, gCv_some, gCr_some, gB01_0, gB01_1, gBi_01, gU_same, gU_off, gW_id, Int.toNat_natCast, Int.toNat_add, Int.toNat_mul, Int.reduceToNat, Nat.add_zero, Int.add_zero, bI_eq0, bI_B, Bool.not_true, Bool.not_false, bI_t, bI_f]
  · rw [decide_eq_false h0] at c1
    refine kPair_ro (-2) hI (c1.trans ?_) ?_
    · simp (disch := omega) only [gInb_t, gLt_t, gLt_f, gEq_t, gEq_f, gIx_nat, gIx_id, gIf, cond_true, cond_false, gCi_some, gCv_some, gCr_some, gB01_0, gB01_1, gBi_01, gU_same, gU_off, gW_id, Int.toNat_natCast, Int.toNat_add, Int.toNat_mul, Int.reduceToNat, Nat.add_zero, Int.add_zero, bI_eq0, bI_B, Bool.not_true, Bool.not_false, bI_t, bI_f]
    · rw [q_X10_pair, s_mtwo _ _ n _ _ _ hn m29 ha hb, gCi_some, decide_eq_false h0]
      simp (disch := omega) only [gInb_t, gLt_t, gLt_f, gEq_t, gEq_f, gIx_nat, gIx_id, gIf, cond_true, cond_false, gCi_some, gCv_some, gCr_some, gB01_0, gB01_1, gBi_01, gU_same, gU_off, gW_id, Int.toNat_natCast, Int.toNat_add, Int.toNat_mul, Int.reduceToNat, Nat.add_zero, Int.add_zero, bI_eq0, bI_B, Bool.not_true, Bool.not_false, bI_t, bI_f]
theorem p_seen (N d : Nat) (a b w : Int) (M : gM) (hN : 100000 ≤ N) (hI : kInv M) (ha : rng a) (hb : rng b) (hw' : rng w) : kPair N (d + 20) 77 156 [.inl a, .inl b, .inl w] M := by
  obtain ⟨n, K, t, F, G, c, A, B, c', A', B', l, s, h⟩ := id hI
  obtain ⟨hP, hW, hT, hQ, hQ', hX, hU, hKp, hS, hD, hw, hz⟩ := id h
  have hn := hP.1
  have h6 := hP.2.1
  have m29 := hP.2.2.1
  have hKx := iPpl_kx hP
  have hKm := iPpl_km hP
  obtain ⟨hOk, hG8, hH0⟩ := id hW
  obtain ⟨x1, x2, x3, x4⟩ := id hS
  have c1 : gEv N (d + 20) 77 [.inr (.inr 1), .inl a, .inl b, .inl w] M = _ := q_X9_seen N (d + 19) _ _ _ M
  rw [s_xhas _ _ n _ _ hn h6 ha, gCi_some, s_xin N _ b 0 12 M hb (rng_c (by omega) (by omega)) (rng_c (by omega) (by omega)), gCi_some, s_xin N _ w 0 9 M hw' (rng_c (by omega) (by omega)) (rng_c (by omega) (by omega)), gCi_some] at c1
  have c3 := q_X10_seen N (d + 19) a b w M
  rw [s_mhas _ _ n _ _ hn m29 ha, gCi_some, s_min N _ b 0 12 (((0 : Nat) : Int)) (((12 : Nat) : Int) - ((0 : Nat) : Int)) M hb (rng_c (by omega) (by omega)) (rng_c (by omega) (by omega)) rfl rfl, gCi_some, s_min N _ w 0 9 (((0 : Nat) : Int)) (((9 : Nat) : Int) - ((0 : Nat) : Int)) M hw' (rng_c (by omega) (by omega)) (rng_c (by omega) (by omega)) rfl rfl, gCi_some] at c3
  by_cases hp : 0 ≤ a ∧ a < (n : Int)
  · rw [decide_eq_true hp] at c1 c3
    by_cases h0 : 0 ≤ b ∧ b ≤ 12
    · rw [decide_eq_true h0] at c1 c3
      by_cases h1 : 0 ≤ w ∧ w ≤ 9
      · rw [decide_eq_true h1] at c1 c3
        by_cases h2 : s < 6
        · have e1 : gEv N (d + 20) 77 [.inr (.inr 1), .inl a, .inl b, .inl w] M = some (gU (gU (gU (gU M 55 s a) 56 s b) 57 s w) 54 0 ((s : Int) + 1), some (.inl ((s : Int) + 1))) := by
            refine c1.trans ?_
            have e2 : gEv N (d + 19) 33 [.inr (.inr 55), .inl a, .inl b, .inl w] M = some (gU (gU (gU (gU M 55 s a) 56 s b) 57 s w) 54 0 ((s : Int) + 1), none) := by
              refine (q_X6_append N (d + 18) a b w M).trans ?_
              simp (disch := omega) only [gInb_t, gLt_t, gLt_f, gEq_t, gEq_f, gIx_nat, gIx_id, gIf, cond_true, cond_false, gCi_some, gCv_some, gCr_some, gB01_0, gB01_1, gBi_01, gU_same, gU_off, gW_id, Int.toNat_natCast, Int.toNat_add, Int.toNat_mul, Int.reduceToNat, Nat.add_zero, Int.add_zero, bI_eq0, bI_B, Bool.not_true, Bool.not_false, bI_t, bI_f, gU_off, x2]
            rw [e2, gCv_some, x2]
            simp (disch := omega) only [gInb_t, gLt_t, gLt_f, gEq_t, gEq_f, gIx_nat, gIx_id, gIf, cond_true, cond_false, gCi_some, gCv_some, gCr_some, gB01_0, gB01_1, gBi_01, gU_same, gU_off, gW_id, Int.toNat_natCast, Int.toNat_add, Int.toNat_mul, Int.reduceToNat, Nat.add_zero, Int.add_zero, bI_eq0, bI_B, Bool.not_true, Bool.not_false, bI_t, bI_f]
          have c4 := q_X10_seen N (d + 19) a b w (gU (gU (gU (gU M 55 s a) 56 s b) 57 s w) 54 0 ((s : Int) + 1))
          rw [s_mhas _ _ n _ _ hn (by simp (disch := omega) only [gU_same, gU_off, m29]) ha, gCi_some, s_min N _ b 0 12 (((0 : Nat) : Int)) (((12 : Nat) : Int) - ((0 : Nat) : Int)) _ hb (rng_c (by omega) (by omega)) (rng_c (by omega) (by omega)) rfl rfl, gCi_some, s_min N _ w 0 9 (((0 : Nat) : Int)) (((9 : Nat) : Int) - ((0 : Nat) : Int)) _ hw' (rng_c (by omega) (by omega)) (rng_c (by omega) (by omega)) rfl rfl, gCi_some, decide_eq_true hp, decide_eq_true h0, decide_eq_true h1] at c4
          have x3' : gU (gU (gU (gU M 55 s a) 56 s b) 57 s w) 54 0 ((s : Int) + 1) 81 5 = (s : Int) := by simp (disch := omega) only [gU_same, gU_off, x3]
          have e2 : gEv N (d + 20) 156 [.inr (.inr 82), .inl a, .inl b, .inl w] (gU (gU (gU (gU M 55 s a) 56 s b) 57 s w) 54 0 ((s : Int) + 1)) = some (gU (gU (gU (gU (gU (gU (gU (gU M 55 s a) 56 s b) 57 s w) 54 0 ((s : Int) + 1)) 85 s a) 86 s b) 87 s w) 81 5 ((s : Int) + 1), some (.inl ((s : Int) + 1))) := by
            refine c4.trans ?_
            simp (disch := omega) only [gInb_t, gLt_t, gLt_f, gEq_t, gEq_f, gIx_nat, gIx_id, gIf, cond_true, cond_false, gCi_some, gCv_some, gCr_some, gB01_0, gB01_1, gBi_01, gU_same, gU_off, gW_id, Int.toNat_natCast, Int.toNat_add, Int.toNat_mul, Int.reduceToNat, Nat.add_zero, Int.add_zero, bI_eq0, bI_B, Bool.not_true, Bool.not_false, bI_t, bI_f, gU_off, x3]
          refine ⟨_, _, _, e1, e2, fun i => by simp (disch := omega) only [gU_same, gU_off], by simp (disch := omega) only [gU_same, gU_off], n, K, t, F, G, c, A, B, c', A', B', l, s + 1, kI_see ⟨by omega, by simp (disch := omega) only [gU_same, gU_off]; omega, by simp (disch := omega) only [gU_same, gU_off]; omega, fun k hk => ?_⟩ h (fun q i hq => ?_)⟩
          · by_cases hk2 : k = s
            · subst hk2
              simp (disch := omega) only [gU_same, gU_off]
              exact ⟨hp.1, hp.2, h0.1, h0.2, h1.1, h1.2, trivial, trivial, trivial⟩
            · simp (disch := omega) only [gU_same, gU_off]
              exact x4 k (by omega)
          · unfold kScr at hq
            simp (disch := omega) only [gU_same, gU_off]
        · refine kPair_ro (-5) hI (c1.trans ?_) (c3.trans ?_)
          · rw [x2]; simp (disch := omega) only [gInb_t, gLt_t, gLt_f, gEq_t, gEq_f, gIx_nat, gIx_id, gIf, cond_true, cond_false, gCi_some, gCv_some, gCr_some, gB01_0, gB01_1, gBi_01, gU_same, gU_off, gW_id, Int.toNat_natCast, Int.toNat_add, Int.toNat_mul, Int.reduceToNat, Nat.add_zero, Int.add_zero, bI_eq0, bI_B, Bool.not_true, Bool.not_false, bI_t, bI_f]
          · rw [x3]; simp (disch := omega) only [gInb_t, gLt_t, gLt_f, gEq_t, gEq_f, gIx_nat, gIx_id, gIf, cond_true, cond_false, gCi_some, gCv_some, gCr_some, gB01_0, gB01_1, gBi_01, gU_same, gU_off, gW_id, Int.toNat_natCast, Int.toNat_add, Int.toNat_mul, Int.reduceToNat, Nat.add_zero, Int.add_zero, bI_eq0, bI_B, Bool.not_true, Bool.not_false, bI_t, bI_f]
      · rw [decide_eq_false h1] at c1 c3
        refine kPair_ro (-3) hI (c1.trans ?_) (c3.trans ?_)
        · simp (disch := omega) only [gInb_t, gLt_t, gLt_f, gEq_t, gEq_f, gIx_nat, gIx_id, gIf, cond_true, cond_false, gCi_some, gCv_some, gCr_some, gB01_0, gB01_1, gBi_01, gU_same, gU_off, gW_id, Int.toNat_natCast, Int.toNat_add, Int.toNat_mul, Int.reduceToNat, Nat.add_zero, Int.add_zero, bI_eq0, bI_B, Bool.not_true, Bool.not_false, bI_t, bI_f]
        · simp (disch := omega) only [gInb_t, gLt_t, gLt_f, gEq_t, gEq_f, gIx_nat, gIx_id, gIf, cond_true, cond_false, gCi_some, gCv_some, gCr_some, gB01_0, gB01_1, gBi_01, gU_same, gU_off, gW_id, Int.toNat_natCast, Int.toNat_add, Int.toNat_mul, Int.reduceToNat, Nat.add_zero, Int.add_zero, bI_eq0, bI_B, Bool.not_true, Bool.not_false, bI_t, bI_f]
    · rw [decide_eq_false h0] at c1 c3
      refine kPair_ro (-3) hI (c1.trans ?_) (c3.trans ?_)
      · simp (disch := omega) only [gInb_t, gLt_t, gLt_f, gEq_t, gEq_f, gIx_nat, gIx_id, gIf, cond_true, cond_false, gCi_some, gCv_some, gCr_some, gB01_0, gB01_1, gBi_01, gU_same, gU_off, gW_id, Int.toNat_natCast, Int.toNat_add, Int.toNat_mul, Int.reduceToNat, Nat.add_zero, Int.add_zero, bI_eq0, bI_B, Bool.not_true, Bool.not_false, bI_t, bI_f]
      · simp (disch := omega) only [gInb_t, gLt_t, gLt_f, gEq_t, gEq_f, gIx_nat, gIx_id, gIf, cond_true, cond_false, gCi_some, gCv_some, gCr_some, gB01_0, gB01_1, gBi_01, gU_same, gU_off, gW_id, Int.toNat_natCast, Int.toNat_add, Int.toNat_mul, Int.reduceToNat, Nat.add_zero, Int.add_zero, bI_eq0, bI_B, Bool.not_true, Bool.not_false, bI_t, bI_f]
  · rw [decide_eq_false hp] at c1 c3
    refine kPair_ro (-2) hI (c1.trans ?_) (c3.trans ?_)
    · simp (disch := omega) only [gInb_t, gLt_t, gLt_f, gEq_t, gEq_f, gIx_nat, gIx_id, gIf, cond_true, cond_false, gCi_some, gCv_some, gCr_some, gB01_0, gB01_1, gBi_01, gU_same, gU_off, gW_id, Int.toNat_natCast, Int.toNat_add, Int.toNat_mul, Int.reduceToNat, Nat.add_zero, Int.add_zero, bI_eq0, bI_B, Bool.not_true, Bool.not_false, bI_t, bI_f]
    · simp (disch := omega) only [gInb_t, gLt_t, gLt_f, gEq_t, gEq_f, gIx_nat, gIx_id, gIf, cond_true, cond_false, gCi_some, gCv_some, gCr_some, gB01_0, gB01_1, gBi_01, gU_same, gU_off, gW_id, Int.toNat_natCast, Int.toNat_add, Int.toNat_mul, Int.reduceToNat, Nat.add_zero, Int.add_zero, bI_eq0, bI_B, Bool.not_true, Bool.not_false, bI_t, bI_f]
