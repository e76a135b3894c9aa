-- 64: tidy, copy
def ahX (u w : Int) (b : Bool) : Bool := decide (w < u) || (decide (u = w) && b)
def ltD (K : Nat → Nat) (F : Nat → List Int) (s x y : Int) : Bool := cond (decide (s = 2)) (ahX (ld K F 0 x.toNat) (ld K F 0 y.toNat) (decide (x < y))) (decide (x < y))
theorem s_before (N d e n : Nat) (s x y : Int) (K : Nat → Nat) (t : Int) (F : Nat → List Int) (M : gM) (hN : 10 ≤ N) (hn : n ≤ 7) (he : e < 4) (hK : kKx M n K) (hF : kOk n t F) (hG : kG M n 8 t F) (hs : M (70 + 3 * e) 0 = s) (hsr : 0 ≤ s ∧ s ≤ 2) (hx : rng x) (hy : rng y) (hxp : s = 2 → 0 ≤ x ∧ x < (n : Int)) (hyp : s = 2 → 0 ≤ y ∧ y < (n : Int)) : gEv N (d + 4) 6 [.inr (.inr (69 + 3 * e + 1)), .inl x, .inl y, .inr (.inr 7)] M = some (M, some (.inl (bI (ltD K F s x y)))) := by
  rw [q_X0_comesBefore _ _ _ _ _ _ (dPl he), gIx_e (x := 0) (n := 0) rfl (by omega), show 69 + 3 * e + 1 = 70 + 3 * e by omega, hs, s_xhas _ _ n _ _ hn hK.1 hx, gCi_some, s_xhas _ _ n _ _ hn hK.1 hy, gCi_some, gLt_id hx.1 hx.2 hy.1 hy.2]
  by_cases h2 : s = 2
  · subst h2
    have p1 := hxp rfl
    have p2 := hyp rfl
    rw [decide_eq_true p1, decide_eq_true p2]
    obtain ⟨p, rfl⟩ : ∃ p : Nat, x = (p : Int) := ⟨x.toNat, by omega⟩
    obtain ⟨o, rfl⟩ : ∃ o : Nat, y = (o : Int) := ⟨y.toNat, by omega⟩
    have b1 := ld_bd (c := 0) (hK.2 p (by omega)).1 (hF.2.2 p (by omega))
    have b2 := ld_bd (c := 0) (hK.2 o (by omega)).1 (hF.2.2 o (by omega))
    rw [s_xload0 N _ p n K t F M hN hn (by omega) hK hF hG, gCi_some, s_xload0 N _ o n K t F M hN hn (by omega) hK hF hG, gCi_some]
    simp only [ltD, Int.toNat_natCast, decide_true, cond_true]
    generalize ld K F 0 p = u at *
    generalize ld K F 0 o = w at *
    unfold ahX
    rw [gLt_id (by omega) (by omega) (by omega) (by omega), gEq_id (x := u) (by omega) (by omega) (by omega) (by omega)]
    generalize decide (w < u) = d1
    generalize decide (u = w) = d2
    generalize decide ((p : Int) < (o : Int)) = d3
    simp (disch := omega) only [gInb_t, gLt_t, gLt_f, gEq_t, gEq_f, gIx_nat, gIx_id, gIf, cond_true, cond_false, gCi_some, gCv_some, gCr_some, gB01_0, gB01_1, gBi_01, gU_same, gU_off, gW_id, Int.toNat_natCast, Int.toNat_add, Int.toNat_mul, Int.reduceToNat, Nat.add_zero, Int.add_zero, bI_eq0, bI_B, Bool.not_true, Bool.not_false, bI_t, bI_f]
    cases d1 <;> cases d2 <;> cases d3 <;> simp [bI]
  · simp only [ltD, decide_eq_false h2, cond_false]
    generalize decide (x < y) = d3
    simp (disch := omega) only [gInb_t, gLt_t, gLt_f, gEq_t, gEq_f, gIx_nat, gIx_id, gIf, cond_true, cond_false, gCi_some, gCv_some, gCr_some, gB01_0, gB01_1, gBi_01, gU_same, gU_off, gW_id, Int.toNat_natCast, Int.toNat_add, Int.toNat_mul, Int.reduceToNat, Nat.add_zero, Int.add_zero, bI_eq0, bI_B, Bool.not_true, Bool.not_false, bI_t, bI_f]
    cases d3 <;> simp [bI]
theorem s_isBehind (N d n : Nat) (s x y : Int) (K : Nat → Nat) (t : Int) (F : Nat → List Int) (M : gM) (hN : 10 ≤ N) (hn : n ≤ 7) (hK : kKm M n K) (hF : kOk n t F) (hG : kH M n 0 t F) (hsr : 0 ≤ s ∧ s ≤ 2) (hx : rng x) (hy : rng y) (hxp : s = 2 → 0 ≤ x ∧ x < (n : Int)) (hyp : s = 2 → 0 ≤ y ∧ y < (n : Int)) : gEv N (d + 4) 165 [.inr (.inr 82), .inl s, .inl y, .inl x] M = some (M, some (.inl (bI (ltD K F s x y)))) := by
  rw [q_X10_isBehind, gLt_id (x := x) hx.1 hx.2 hy.1 hy.2]
  by_cases h2 : s = 2
  · subst h2
    have p1 := hxp rfl
    have p2 := hyp rfl
    obtain ⟨p, rfl⟩ : ∃ p : Nat, x = (p : Int) := ⟨x.toNat, by omega⟩
    obtain ⟨o, rfl⟩ : ∃ o : Nat, y = (o : Int) := ⟨y.toNat, by omega⟩
    have b1 := ld_bd (c := 0) (hK.2 p (by omega)).1 (hF.2.2 p (by omega))
    have b2 := ld_bd (c := 0) (hK.2 o (by omega)).1 (hF.2.2 o (by omega))
    rw [s_mload0 N _ o n K t F M hN hn (by omega) hK hF hG, gCi_some, s_mload0 N _ p n K t F M hN hn (by omega) hK hF hG, gCi_some]
    simp only [ltD, Int.toNat_natCast, decide_true, cond_true]
    generalize ld K F 0 p = u at *
    generalize ld K F 0 o = w at *
    unfold ahX
    rw [gLt_id (x := w) (by omega) (by omega) (by omega) (by omega), gEq_id (x := w) (by omega) (by omega) (by omega) (by omega), show decide (w = u) = decide (u = w) by simp only [eq_comm]]
    generalize decide (w < u) = d1
    generalize decide (u = w) = d2
    generalize decide ((p : Int) < (o : Int)) = d3
    simp (disch := omega) only [gInb_t, gLt_t, gLt_f, gEq_t, gEq_f, gIx_nat, gIx_id, gIf, cond_true, cond_false, gCi_some, gCv_some, gCr_some, gB01_0, gB01_1, gBi_01, gU_same, gU_off, gW_id, Int.toNat_natCast, Int.toNat_add, Int.toNat_mul, Int.reduceToNat, Nat.add_zero, Int.add_zero, bI_eq0, bI_B, Bool.not_true, Bool.not_false, bI_t, bI_f]
    cases d1 <;> cases d2 <;> cases d3 <;> simp [bI]
  · simp only [ltD, decide_eq_false h2, cond_false]
    generalize decide (x < y) = d3
    simp (disch := omega) only [gInb_t, gLt_t, gLt_f, gEq_t, gEq_f, gIx_nat, gIx_id, gIf, cond_true, cond_false, gCi_some, gCv_some, gCr_some, gB01_0, gB01_1, gBi_01, gU_same, gU_off, gW_id, Int.toNat_natCast, Int.toNat_add, Int.toNat_mul, Int.reduceToNat, Nat.add_zero, Int.add_zero, bI_eq0, bI_B, Bool.not_true, Bool.not_false, bI_t, bI_f]
    cases d3 <;> simp [bI]
theorem l_like (C : gCl) (e m : Nat) (M : gM) (he : e < 4) (hm : m ≤ 10) (h1 : M (69 + 3 * e) 1 = (m : Int)) (hs : ∀ i, i < 10 → 0 ≤ M (70 + 3 * e) i ∧ M (70 + 3 * e) i ≤ 3) : ∀ (r k z : Nat), (k + r = m ∨ (r = 0 ∧ m ≤ k ∧ k ≤ 11)) → r < z → L_X0_isOfLikeThings_2 C z (69 + 3 * e) (k : Int) M = some (M, some (.inl (bI (!(oB (fun i => !(decide (M (70 + 3 * e) i = M (70 + 3 * e) 0))) k r))))) := by
  intro r
  induction r with
  | zero =>
    intro k z hk hz
    obtain ⟨z, rfl⟩ : ∃ y, z = y + 1 := ⟨z - 1, by omega⟩
    rw [q_X0_isOfLikeThings_2 _ _ _ _ _ (dPl he), h1]
    simp (disch := omega) only [gInb_t, gLt_t, gLt_f, gEq_t, gEq_f, gIx_nat, gIx_id, gIf, cond_true, cond_false, gCi_some, gCv_some, gCr_some, gB01_0, gB01_1, gBi_01, gU_same, gU_off, gW_id, Int.toNat_natCast, Int.toNat_add, Int.toNat_mul, Int.reduceToNat, Nat.add_zero, Int.add_zero, bI_eq0, bI_B, Bool.not_true, Bool.not_false, bI_t, bI_f, oB]
  | succ r ih =>
    intro k z hk hz
    obtain ⟨z, rfl⟩ : ∃ y, z = y + 1 := ⟨z - 1, by omega⟩
    have o := hs k (by omega)
    have o0 := hs 0 (by omega)
    rw [q_X0_isOfLikeThings_2 _ _ _ _ _ (dPl he), h1, gIx_e (x := (k : Int)) (n := k) rfl (by omega), gIx_e (x := 0) (n := 0) rfl (by omega), show 69 + 3 * e + 1 = 70 + 3 * e by omega, cast_1 k, ih (k + 1) z (by omega) (by omega)]
    simp only [oB]
    by_cases h : M (70 + 3 * e) k = M (70 + 3 * e) 0
    · rw [decide_eq_true h]
      simp (disch := omega) only [gInb_t, gLt_t, gLt_f, gEq_t, gEq_f, gIx_nat, gIx_id, gIf, cond_true, cond_false, gCi_some, gCv_some, gCr_some, gB01_0, gB01_1, gBi_01, gU_same, gU_off, gW_id, Int.toNat_natCast, Int.toNat_add, Int.toNat_mul, Int.reduceToNat, Nat.add_zero, Int.add_zero, bI_eq0, bI_B, Bool.not_true, Bool.not_false, bI_t, bI_f, Bool.false_or]
    · rw [decide_eq_false h]
      simp (disch := omega) only [gInb_t, gLt_t, gLt_f, gEq_t, gEq_f, gIx_nat, gIx_id, gIf, cond_true, cond_false, gCi_some, gCv_some, gCr_some, gB01_0, gB01_1, gBi_01, gU_same, gU_off, gW_id, Int.toNat_natCast, Int.toNat_add, Int.toNat_mul, Int.reduceToNat, Nat.add_zero, Int.add_zero, bI_eq0, bI_B, Bool.not_true, Bool.not_false, bI_t, bI_f, Bool.true_or]
theorem l_mlike (C : gCl) (e m : Nat) (f g : Nat → Bool) (M : gM) (he : e < 4) (hm : m ≤ 10) (h1 : M 88 e = (m : Int)) (hf : ∀ i, i < 10 → gEq (M 89 (10 * e + i)) (-1) = f i ∧ gEq (M 89 (10 * e + i)) (M 89 (10 * e)) = !(g i)) : ∀ (r k z : Nat) (b1 b2 : Bool), k + r = m → 4 * r + 10 < z → ∃ z', z ≤ z' + 4 * r + 1 ∧ L_X10_tidy_29 C z (e : Int) (bI b1) (bI b2) (k : Int) M = cond (!(b1 || oB f k r) && !(b2 || oB g k r)) (L_X10_tidy_129 C z' (e : Int) 0 0 1 M) (some (M, some (.inl (cond (b1 || oB f k r) (-13) (-14))))) := by
  have ie := gIx_e (x := (e : Int)) (n := e) rfl (by omega)
  have i10 := gIx_e (x := 10 * (e : Int)) (n := 10 * e) (by omega) (by omega)
  have step65 : ∀ (y k : Nat) (s0 b1 b2 : Bool), k < m → 1 ≤ y → L_X10_tidy_65 C y (e : Int) (bI b1) (bI b2) (k : Int) (bI s0) M = L_X10_tidy_29 C (y - 1) (e : Int) (bI s0) (bI (b2 || g k)) ((k + 1 : Nat) : Int) M := fun y k s0 b1 b2 hk hy => by
    obtain ⟨y, rfl⟩ : ∃ q, y = q + 1 := ⟨y - 1, by omega⟩
    rw [q_X10_tidy_65, gIx_e (x := 10 * (e : Int) + (k : Int)) (n := 10 * e + k) (by omega) (by omega), i10, (hf k (by omega)).2, Nat.add_sub_cancel, cast_1 k]
    cases b2 with
    | true => simp (disch := omega) only [gInb_t, gLt_t, gLt_f, gEq_t, gEq_f, gIx_nat, gIx_id, gIf, cond_true, cond_false, gCi_some, gCv_some, gCr_some, gB01_0, gB01_1, gBi_01, gU_same, gU_off, gW_id, Int.toNat_natCast, Int.toNat_add, Int.toNat_mul, Int.reduceToNat, Nat.add_zero, Int.add_zero, bI_eq0, bI_B, Bool.not_true, Bool.not_false, bI_t, bI_f, Bool.true_or]
    | false =>
      cases hg : g k with
      | true => simp (disch := omega) only [gInb_t, gLt_t, gLt_f, gEq_t, gEq_f, gIx_nat, gIx_id, gIf, cond_true, cond_false, gCi_some, gCv_some, gCr_some, gB01_0, gB01_1, gBi_01, gU_same, gU_off, gW_id, Int.toNat_natCast, Int.toNat_add, Int.toNat_mul, Int.reduceToNat, Nat.add_zero, Int.add_zero, bI_eq0, bI_B, Bool.not_true, Bool.not_false, bI_t, bI_f, Bool.or_true]
      | false => simp (disch := omega) only [gInb_t, gLt_t, gLt_f, gEq_t, gEq_f, gIx_nat, gIx_id, gIf, cond_true, cond_false, gCi_some, gCv_some, gCr_some, gB01_0, gB01_1, gBi_01, gU_same, gU_off, gW_id, Int.toNat_natCast, Int.toNat_add, Int.toNat_mul, Int.reduceToNat, Nat.add_zero, Int.add_zero, bI_eq0, bI_B, Bool.not_true, Bool.not_false, bI_t, bI_f, Bool.or_false]
  have step29 : ∀ (y k : Nat) (b1 b2 : Bool), k < m → 4 ≤ y → ∃ y', y ≤ y' + 3 ∧ L_X10_tidy_29 C y (e : Int) (bI b1) (bI b2) (k : Int) M = L_X10_tidy_29 C y' (e : Int) (bI (b1 || f k)) (bI (b2 || g k)) ((k + 1 : Nat) : Int) M := fun y k b1 b2 hk hy => by
    obtain ⟨y, rfl⟩ : ∃ q, y = q + 1 := ⟨y - 1, by omega⟩
    have e60 : ∀ q, 2 ≤ q → L_X10_tidy_60 C q (e : Int) (bI b1) (bI b2) (k : Int) M = L_X10_tidy_29 C (q - 1 - 1) (e : Int) (bI true) (bI (b2 || g k)) ((k + 1 : Nat) : Int) M := fun q hq => by
      obtain ⟨q, rfl⟩ : ∃ w, q = w + 1 := ⟨q - 1, by omega⟩
      rw [q_X10_tidy_60, Nat.add_sub_cancel]
      exact step65 q k true b1 b2 hk (by omega)
    cases b1 with
    | true =>
      refine ⟨y - 1 - 1, by omega, ?_⟩
      rw [q_X10_tidy_29, ie, h1, e60 y (by omega)]
      simp (disch := omega) only [gInb_t, gLt_t, gLt_f, gEq_t, gEq_f, gIx_nat, gIx_id, gIf, cond_true, cond_false, gCi_some, gCv_some, gCr_some, gB01_0, gB01_1, gBi_01, gU_same, gU_off, gW_id, Int.toNat_natCast, Int.toNat_add, Int.toNat_mul, Int.reduceToNat, Nat.add_zero, Int.add_zero, bI_eq0, bI_B, Bool.not_true, Bool.not_false, bI_t, bI_f, Bool.true_or]
    | false =>
      cases hfk : f k with
      | true =>
        refine ⟨y - 1 - 1, by omega, ?_⟩
        rw [q_X10_tidy_29, ie, h1, gIx_e (x := 10 * (e : Int) + (k : Int)) (n := 10 * e + k) (by omega) (by omega), (hf k (by omega)).1, hfk, e60 y (by omega)]
        simp (disch := omega) only [gInb_t, gLt_t, gLt_f, gEq_t, gEq_f, gIx_nat, gIx_id, gIf, cond_true, cond_false, gCi_some, gCv_some, gCr_some, gB01_0, gB01_1, gBi_01, gU_same, gU_off, gW_id, Int.toNat_natCast, Int.toNat_add, Int.toNat_mul, Int.reduceToNat, Nat.add_zero, Int.add_zero, bI_eq0, bI_B, Bool.not_true, Bool.not_false, bI_t, bI_f, Bool.false_or]
      | false =>
        refine ⟨y - 1, by omega, ?_⟩
        have s5 := step65 y k false false b2 hk (by omega)
        rw [q_X10_tidy_29, ie, h1, gIx_e (x := 10 * (e : Int) + (k : Int)) (n := 10 * e + k) (by omega) (by omega), (hf k (by omega)).1, hfk]
        rw [bI_f] at s5
        simp (disch := omega) only [gInb_t, gLt_t, gLt_f, gEq_t, gEq_f, gIx_nat, gIx_id, gIf, cond_true, cond_false, gCi_some, gCv_some, gCr_some, gB01_0, gB01_1, gBi_01, gU_same, gU_off, gW_id, Int.toNat_natCast, Int.toNat_add, Int.toNat_mul, Int.reduceToNat, Nat.add_zero, Int.add_zero, bI_eq0, bI_B, Bool.not_true, Bool.not_false, bI_t, bI_f, Bool.false_or]
        exact s5
  intro r
  induction r with
  | zero =>
    intro k z b1 b2 hk hz
    obtain ⟨z, rfl⟩ : ∃ y, z = y + 1 := ⟨z - 1, by omega⟩
    refine ⟨z, by omega, ?_⟩
    rw [q_X10_tidy_29, ie, h1]
    simp only [oB, Bool.or_false]
    cases b1 <;> cases b2 <;> simp (disch := omega) only [gInb_t, gLt_t, gLt_f, gEq_t, gEq_f, gIx_nat, gIx_id, gIf, cond_true, cond_false, gCi_some, gCv_some, gCr_some, gB01_0, gB01_1, gBi_01, gU_same, gU_off, gW_id, Int.toNat_natCast, Int.toNat_add, Int.toNat_mul, Int.reduceToNat, Nat.add_zero, Int.add_zero, bI_eq0, bI_B, Bool.not_true, Bool.not_false, bI_t, bI_f, Bool.and_true, Bool.and_false, Bool.true_and, Bool.false_and]
  | succ r ih =>
    intro k z b1 b2 hk hz
    obtain ⟨y', q1, q2⟩ := step29 z k b1 b2 (by omega) (by omega)
    obtain ⟨z', p1, p2⟩ := ih (k + 1) y' (b1 || f k) (b2 || g k) (by omega) (by omega)
    refine ⟨z', by omega, ?_⟩
    rw [q2, p2]
    simp only [oB, Bool.or_assoc]
/-- the class's tidy at one drawer -/
noncomputable def tdE (C : gCl) (e : Nat) (M : gM) : Option gR := cond (gEq (M (69 + 3 * e) 0) 0) (some (M, some (.inl (-11)))) (gCi (C 3 [.inr (.inr (69 + 3 * e + 1))] M) (fun M3 r4 => cond (gLt r4 (M3 (69 + 3 * e) 1)) (some (M3, some (.inl (-13)))) (gCi (C 4 [.inr (.inr (69 + 3 * e + 1))] M3) (fun M5 r6 => cond (gEq r6 0) (some (M5, some (.inl (-14)))) (gCv (C 5 [.inr (.inr (69 + 3 * e + 1)), .inr (.inr 7)] M5) (fun M7 => some (M7, some (.inl (M7 (69 + 3 * e) 1)))))))))
theorem p_tidy (N d : Nat) (a : Int) (M : gM) (hN : 100000 ≤ N) (hI : kInv M) (ha : rng a) : kPair N (d + 20) 83 166 [.inl a] M := by
  obtain ⟨n, K, t, F, G, c, A, B, c', A', B', l, s, h⟩ := id hI
  obtain ⟨hP, hW, hT, hQ, hQ', hX, hU, hKp, hS, hD, hw, hz⟩ := id h
  have hn := hP.1
  have h6 := hP.2.1
  have m29 := hP.2.2.1
  have hKx := iPpl_kx hP
  have hKm := iPpl_km hP
  obtain ⟨hOk, hG8, hH0⟩ := id hW
  have c1 := q_X9_tidy N (d + 19) a M
  rw [s_xdr _ _ _ _ ha, gCi_some] at c1
  have c2 := q_X10_tidy N (d + 19) a M
  rw [s_mdr _ _ _ _ ha, gCi_some] at c2
  by_cases h0 : 0 ≤ a ∧ a ≤ 3
  · rw [decide_eq_true h0] at c1 c2
    obtain ⟨e, rfl⟩ : ∃ e : Nat, a = (e : Int) := ⟨a.toNat, by omega⟩
    have he : e < 4 := by omega
    have ie := gIx_e (x := (e : Int)) (n := e) rfl (by omega)
    rw [ie] at c2
    have c3 : gEv N (d + 20) 83 [.inr (.inr 1), .inl (e : Int)] M = tdE (gEv N (d + 19)) e M := by
      refine c1.trans ?_
      unfold tdE
      rcases (by omega : e = 0 ∨ e = 1 ∨ e = 2 ∨ e = 3) with rfl | rfl | rfl | rfl
      · simp (disch := omega) only [gEq_f, gEq_t, cond_false, cond_true, gInb_t, gIf_t, bI_eq0, Bool.not_true]
      · simp (disch := omega) only [gEq_f, gEq_t, cond_false, cond_true, gInb_t, gIf_t, bI_eq0, Bool.not_true]
      · simp (disch := omega) only [gEq_f, gEq_t, cond_false, cond_true, gInb_t, gIf_t, bI_eq0, Bool.not_true]
      · simp (disch := omega) only [gEq_f, gEq_t, cond_false, cond_true, gInb_t, gIf_t, bI_eq0, Bool.not_true]
    unfold tdE at c3
    obtain ⟨d1, d2⟩ := hD e he
    rcases d1 with ⟨g0, g1⟩ | ⟨g0, g1, g2, g3⟩
    · rw [g0] at c3
      rw [g1] at c2
      refine kPair_ro (-11) hI (c3.trans ?_) (c2.trans ?_)
      · simp (disch := omega) only [gInb_t, gLt_t, gLt_f, gEq_t, gEq_f, gIx_nat, gIx_id, gIf, cond_true, cond_false, gCi_some, gCv_some, gCr_some, gB01_0, gB01_1, gBi_01, gU_same, gU_off, gW_id, Int.toNat_natCast, Int.toNat_add, Int.toNat_mul, Int.reduceToNat, Nat.add_zero, Int.add_zero, bI_eq0, bI_B, Bool.not_true, Bool.not_false, bI_t, bI_f]
      · simp (disch := omega) only [gInb_t, gLt_t, gLt_f, gEq_t, gEq_f, gIx_nat, gIx_id, gIf, cond_true, cond_false, gCi_some, gCv_some, gCr_some, gB01_0, gB01_1, gBi_01, gU_same, gU_off, gW_id, Int.toNat_natCast, Int.toNat_add, Int.toNat_mul, Int.reduceToNat, Nat.add_zero, Int.add_zero, bI_eq0, bI_B, Bool.not_true, Bool.not_false, bI_t, bI_f]
    · obtain ⟨m, hm⟩ : ∃ m : Nat, M 88 e = (m : Int) := ⟨(M 88 e).toNat, by omega⟩
      have hm10 : m ≤ 10 := by omega
      rw [hm] at c2
      have hs03 : ∀ i, i < 10 → 0 ≤ M (70 + 3 * e) i ∧ M (70 + 3 * e) i ≤ 3 := fun i hi => ⟨(d2 i hi).1, (d2 i hi).2.1⟩
      have l1 := (q_X0_howManyThings N (d + 18) (69 + 3 * e) M (dPl he)).trans (l_things (gEv N (d + 18)) e m M he hm10 (g3.trans hm) hs03 m 0 N 0 (by omega) (by omega))
      have l2 := (q_X0_isOfLikeThings N (d + 18) (69 + 3 * e) M (dPl he)).trans (l_like (gEv N (d + 18)) e m M he hm10 (g3.trans hm) hs03 (m - 1) 1 N (by omega) (by omega))
      have hgf : ∀ i, i < 10 → gEq (M 89 (10 * e + i)) (-1) = decide (M (70 + 3 * e) i = 3) ∧ gEq (M 89 (10 * e + i)) (M 89 (10 * e)) = !(!(decide (M (70 + 3 * e) i = M (70 + 3 * e) 0))) := fun i hi => by
        obtain ⟨o1, o2, o3, o4, o5, o6⟩ := d2 i hi
        obtain ⟨u1, u2, u3, u4, u5, u6⟩ := d2 0 (by omega)
        rw [Nat.add_zero] at u3
        rw [o3, u3, Bool.not_not]
        constructor
        · by_cases h3 : M (70 + 3 * e) i = 3
          · rw [if_pos h3, decide_eq_true h3, gEq_refl]
          · rw [if_neg h3, decide_eq_false h3, gEq_f (by omega) (by omega) (by omega) (by omega) (by omega)]
        · by_cases h3 : M (70 + 3 * e) i = 3
          · by_cases h4 : M (70 + 3 * e) 0 = 3
            · rw [if_pos h3, if_pos h4, decide_eq_true (by omega), gEq_refl]
            · rw [if_pos h3, if_neg h4, decide_eq_false (by omega), gEq_f (by omega) (by omega) (by omega) (by omega) (by omega)]
          · by_cases h4 : M (70 + 3 * e) 0 = 3
            · rw [if_neg h3, if_pos h4, decide_eq_false (by omega), gEq_f (by omega) (by omega) (by omega) (by omega) (by omega)]
            · rw [if_neg h3, if_neg h4]
              by_cases h5 : M (70 + 3 * e) i = M (70 + 3 * e) 0
              · rw [h5, decide_eq_true rfl, gEq_refl]
              · rw [decide_eq_false h5, gEq_f h5 (by omega) (by omega) (by omega) (by omega)]
      have hlike : ∀ M1, (∀ q i, (q = 88 ∨ q = 89) → M1 q i = M q i) → ∃ z', N ≤ z' + 4 * m + 1 ∧ L_X10_tidy_29 (gEv N (d + 19)) N (e : Int) 0 0 0 M1 = cond (!(oB (fun i => decide (M (70 + 3 * e) i = 3)) 0 m) && !(oB (fun i => !(decide (M (70 + 3 * e) i = M (70 + 3 * e) 0))) 0 m)) (L_X10_tidy_129 (gEv N (d + 19)) z' (e : Int) 0 0 1 M1) (some (M1, some (.inl (cond (oB (fun i => decide (M (70 + 3 * e) i = 3)) 0 m) (-13) (-14))))) := fun M1 hM1 => by
        have q := l_mlike (gEv N (d + 19)) e m (fun i => decide (M (70 + 3 * e) i = 3)) (fun i => !(decide (M (70 + 3 * e) i = M (70 + 3 * e) 0))) M1 he hm10 ((hM1 _ _ (Or.inl rfl)).trans hm) (fun i hi => by
          rw [hM1 89 _ (Or.inr rfl), hM1 89 _ (Or.inr rfl)]
          exact hgf i hi) m 0 N false false (by omega) (by omega)
        simp only [Bool.false_or] at q
        exact q
      rw [l1, gCi_some, g3, hm, Nat.zero_add] at c3
      have hcb := oB_cB (fun i => decide (M (70 + 3 * e) i = 3)) m 0
      have hcl := cB_le (fun i => !(decide (M (70 + 3 * e) i = 3))) m 0
      cases hE : oB (fun i => decide (M (70 + 3 * e) i = 3)) 0 m with
      | true =>
        have hlt := hcb.mpr hE
        obtain ⟨z', y1, y2⟩ := hlike M (fun _ _ _ => rfl)
        refine kPair_ro (-13) hI (c3.trans ?_) (c2.trans ?_)
        · rw [g0]; simp (disch := omega) only [gInb_t, gLt_t, gLt_f, gEq_t, gEq_f, gIx_nat, gIx_id, gIf, cond_true, cond_false, gCi_some, gCv_some, gCr_some, gB01_0, gB01_1, gBi_01, gU_same, gU_off, gW_id, Int.toNat_natCast, Int.toNat_add, Int.toNat_mul, Int.reduceToNat, Nat.add_zero, Int.add_zero, bI_eq0, bI_B, Bool.not_true, Bool.not_false, bI_t, bI_f]
        · rw [y2, hE]; simp (disch := omega) only [gInb_t, gLt_t, gLt_f, gEq_t, gEq_f, gIx_nat, gIx_id, gIf, cond_true, cond_false, gCi_some, gCv_some, gCr_some, gB01_0, gB01_1, gBi_01, gU_same, gU_off, gW_id, Int.toNat_natCast, Int.toNat_add, Int.toNat_mul, Int.reduceToNat, Nat.add_zero, Int.add_zero, bI_eq0, bI_B, Bool.not_true, Bool.not_false, bI_t, bI_f, Bool.false_and]
      | false =>
        have hlt : ¬ (cB (fun i => !(decide (M (70 + 3 * e) i = 3))) 0 m < m) := fun q => by
          have := hcb.mp q
          rw [hE] at this
          cases this
        have hno : ∀ i, i < m → M (70 + 3 * e) i ≠ 3 := fun i hi => by
          have := oB_no _ m 0 hE i (by omega) (by omega)
          simpa using this
        rw [l2, gCi_some] at c3
        have hL : oB (fun i => !(decide (M (70 + 3 * e) i = M (70 + 3 * e) 0))) 0 m = oB (fun i => !(decide (M (70 + 3 * e) i = M (70 + 3 * e) 0))) 1 (m - 1) := by
          match m with
          | 0 => rfl
          | m + 1 =>
            simp only [oB, decide_true, Bool.not_true, Bool.false_or, Nat.add_sub_cancel]
        cases hU : oB (fun i => !(decide (M (70 + 3 * e) i = M (70 + 3 * e) 0))) 1 (m - 1) with
        | true =>
          rw [hU] at hL c3
          obtain ⟨z', y1, y2⟩ := hlike M (fun _ _ _ => rfl)
          refine kPair_ro (-14) hI (c3.trans ?_) (c2.trans ?_)
          · rw [g0]; simp (disch := omega) only [gInb_t, gLt_t, gLt_f, gEq_t, gEq_f, gIx_nat, gIx_id, gIf, cond_true, cond_false, gCi_some, gCv_some, gCr_some, gB01_0, gB01_1, gBi_01, gU_same, gU_off, gW_id, Int.toNat_natCast, Int.toNat_add, Int.toNat_mul, Int.reduceToNat, Nat.add_zero, Int.add_zero, bI_eq0, bI_B, Bool.not_true, Bool.not_false, bI_t, bI_f]
          · rw [y2, hE, hL]; simp (disch := omega) only [gInb_t, gLt_t, gLt_f, gEq_t, gEq_f, gIx_nat, gIx_id, gIf, cond_true, cond_false, gCi_some, gCv_some, gCr_some, gB01_0, gB01_1, gBi_01, gU_same, gU_off, gW_id, Int.toNat_natCast, Int.toNat_add, Int.toNat_mul, Int.reduceToNat, Nat.add_zero, Int.add_zero, bI_eq0, bI_B, Bool.not_true, Bool.not_false, bI_t, bI_f, Bool.false_and, Bool.and_false]
        | false =>
          rw [hU] at hL c3
          have hsame : ∀ i, i < m → M (70 + 3 * e) i = M (70 + 3 * e) 0 := fun i hi => by
            have := oB_no _ m 0 hL i (by omega) (by omega)
            simpa using this
          have hs0 : m ≠ 0 → 0 ≤ M (70 + 3 * e) 0 ∧ M (70 + 3 * e) 0 ≤ 2 := fun q => by
            have := hno 0 (by omega)
            have := hs03 0 (by omega)
            omega
          by_cases hmz : m = 0
          · subst hmz
            have lx : gEv N (d + 19) 5 [.inr (.inr (69 + 3 * e + 1)), .inr (.inr 7)] M = some (M, none) := by
              refine (q_X0_sort N (d + 18) (69 + 3 * e) M (dPl he)).trans ?_
              obtain ⟨z, hz⟩ : ∃ z, N = z + 1 := ⟨N - 1, by omega⟩
              have : ∀ y, 1 ≤ y → L_X0_sort_2 (gEv N (d + 18)) y (69 + 3 * e) 1 M = some (M, none) := fun y hy => by
                obtain ⟨y, rfl⟩ : ∃ q, y = q + 1 := ⟨y - 1, by omega⟩
                rw [q_X0_sort_2 _ _ _ _ _ (dPl he), g3, hm]
                simp (disch := omega) only [gInb_t, gLt_t, gLt_f, gEq_t, gEq_f, gIx_nat, gIx_id, gIf, cond_true, cond_false, gCi_some, gCv_some, gCr_some, gB01_0, gB01_1, gBi_01, gU_same, gU_off, gW_id, Int.toNat_natCast, Int.toNat_add, Int.toNat_mul, Int.reduceToNat, Nat.add_zero, Int.add_zero, bI_eq0, bI_B, Bool.not_true, Bool.not_false, bI_t, bI_f]
              exact this N (by omega)
            rw [lx, gCv_some, g3, hm] at c3
            obtain ⟨z', y1, y2⟩ := hlike M (fun _ _ _ => rfl)
            have : ∀ y, 1 ≤ y → L_X10_tidy_129 (gEv N (d + 19)) y (e : Int) 0 0 1 M = some (M, some (.inl ((0 : Nat) : Int))) := fun y hy => by
              obtain ⟨y, rfl⟩ : ∃ q, y = q + 1 := ⟨y - 1, by omega⟩
              rw [q_X10_tidy_129, ie, hm]
              simp (disch := omega) only [gInb_t, gLt_t, gLt_f, gEq_t, gEq_f, gIx_nat, gIx_id, gIf, cond_true, cond_false, gCi_some, gCv_some, gCr_some, gB01_0, gB01_1, gBi_01, gU_same, gU_off, gW_id, Int.toNat_natCast, Int.toNat_add, Int.toNat_mul, Int.reduceToNat, Nat.add_zero, Int.add_zero, bI_eq0, bI_B, Bool.not_true, Bool.not_false, bI_t, bI_f]
            refine kPair_ro ((0 : Nat) : Int) hI (c3.trans ?_) (c2.trans ?_)
            · rw [g0]; simp (disch := omega) only [gInb_t, gLt_t, gLt_f, gEq_t, gEq_f, gIx_nat, gIx_id, gIf, cond_true, cond_false, gCi_some, gCv_some, gCr_some, gB01_0, gB01_1, gBi_01, gU_same, gU_off, gW_id, Int.toNat_natCast, Int.toNat_add, Int.toNat_mul, Int.reduceToNat, Nat.add_zero, Int.add_zero, bI_eq0, bI_B, Bool.not_true, Bool.not_false, bI_t, bI_f]
            · rw [y2, hE, hL, this z' (by omega)]; simp (disch := omega) only [gInb_t, gLt_t, gLt_f, gEq_t, gEq_f, gIx_nat, gIx_id, gIf, cond_true, cond_false, gCi_some, gCv_some, gCr_some, gB01_0, gB01_1, gBi_01, gU_same, gU_off, gW_id, Int.toNat_natCast, Int.toNat_add, Int.toNat_mul, Int.reduceToNat, Nat.add_zero, Int.add_zero, bI_eq0, bI_B, Bool.not_true, Bool.not_false, bI_t, bI_f, Bool.false_and, Bool.and_false, Bool.and_true]
          · have hs2 := hs0 hmz
            let P : Int → Prop := fun x => rng x ∧ (M (70 + 3 * e) 0 = 2 → 0 ≤ x ∧ x < (n : Int))
            have hPV : ∀ i, i < m → P (M (71 + 3 * e) i) := fun i hi => by
              obtain ⟨o1, o2, o3, o4, o5, o6⟩ := d2 i (by omega)
              exact ⟨o4, fun q => o6 g0 ((hsame i hi).trans q)⟩
            obtain ⟨Mb, x1, x2, x3⟩ := l_xsort (gEv N (d + 18)) e m (ltD K F (M (70 + 3 * e) 0)) P M he hm10 (g3.trans hm) (fun M' x y hf hx hy => by
              exact s_before N (d + 14) e n (M (70 + 3 * e) 0) x y K t F M' (by omega) hn he ⟨by rw [hf _ _ (by omega)]; exact hKx.1, fun p hp => ⟨(hKx.2 p hp).1, by rw [hf _ _ (by omega)]; exact (hKx.2 p hp).2⟩⟩ hOk (kG_fr hG8 hOk.2.2 hn (fun q i hq => hf q i (by omega))) (hf _ _ (by omega)) hs2 hx.1 hy.1 hx.2 hy.2) (m - 1) 1 N (fun i => M (71 + 3 * e) i) M (by omega) (by omega) (fun _ _ _ => rfl) (fun _ _ => rfl) hPV
            have lx : gEv N (d + 19) 5 [.inr (.inr (69 + 3 * e + 1)), .inr (.inr 7)] M = some (Mb, none) := (q_X0_sort N (d + 18) (69 + 3 * e) M (dPl he)).trans x1
            rw [lx, gCv_some, x2 (69 + 3 * e) 1 (by omega), g3, hm] at c3
            have e1 : gEv N (d + 20) 83 [.inr (.inr 1), .inl (e : Int)] M = some (Mb, some (.inl (m : Int))) := by
              refine c3.trans ?_
              rw [g0]; simp (disch := omega) only [gInb_t, gLt_t, gLt_f, gEq_t, gEq_f, gIx_nat, gIx_id, gIf, cond_true, cond_false, gCi_some, gCv_some, gCr_some, gB01_0, gB01_1, gBi_01, gU_same, gU_off, gW_id, Int.toNat_natCast, Int.toNat_add, Int.toNat_mul, Int.reduceToNat, Nat.add_zero, Int.add_zero, bI_eq0, bI_B, Bool.not_true, Bool.not_false, bI_t, bI_f]
            obtain ⟨z', y1, y2⟩ := hlike Mb (fun q i hq => x2 q i (by omega))
            obtain ⟨Md, w1, w2, w3⟩ := l_msort (gEv N (d + 19)) e m (M (70 + 3 * e) 0) 0 0 (ltD K F (M (70 + 3 * e) 0)) P Mb he hm10 ((x2 _ _ (by omega)).trans hm) (fun i hi => by
              rw [x2 89 _ (by omega), (d2 i (by omega)).2.2.1, if_neg (hno i hi)]
              exact hsame i hi) (fun M' x y hf hx hy => by
              exact s_isBehind N (d + 15) n (M (70 + 3 * e) 0) x y K t F M' (by omega) hn (kKm_fr hKm hn (fun i h1 h2 => (hf _ _ (by omega)).trans (x2 _ _ (by omega)))) hOk (kH_fr hH0 hOk.2.2 hn (fun i h1 h2 => (hf _ _ (by omega)).trans (x2 _ _ (by omega)))) hs2 hx.1 hy.1 hx.2 hy.2) (m - 1) 1 z' (fun i => M (71 + 3 * e) i) Mb (by omega) (by omega) (fun _ _ _ => rfl) (fun i hi => by
              rw [x2 90 _ (by omega)]
              exact (d2 i hi).2.2.2.2.1) hPV
            have e2 : gEv N (d + 20) 166 [.inr (.inr 82), .inl (e : Int)] Mb = some (Md, some (.inl (m : Int))) := by
              refine (q_X10_tidy N (d + 19) (e : Int) Mb).trans ?_
              rw [s_mdr _ _ _ _ ha, gCi_some, decide_eq_true h0, ie, x2 88 _ (by omega), hm, y2, hE, hL]
              refine Eq.trans ?_ w1
              simp (disch := omega) only [gInb_t, gLt_t, gLt_f, gEq_t, gEq_f, gIx_nat, gIx_id, gIf, cond_true, cond_false, gCi_some, gCv_some, gCr_some, gB01_0, gB01_1, gBi_01, gU_same, gU_off, gW_id, Int.toNat_natCast, Int.toNat_add, Int.toNat_mul, Int.reduceToNat, Nat.add_zero, Int.add_zero, bI_eq0, bI_B, Bool.not_true, Bool.not_false, bI_t, bI_f, Bool.and_true]
              rfl
            have hV2 := sortV_P (ltD K F (M (70 + 3 * e) 0)) P m (m - 1) 1 (fun i => M (71 + 3 * e) i) (by omega) hPV
            have hV3 := sortV_hi (ltD K F (M (70 + 3 * e) 0)) (m - 1) 1 (fun i => M (71 + 3 * e) i)
            have fd : ∀ q i, q ≠ 71 + 3 * e → ¬ (q = 90 ∧ 10 * e ≤ i ∧ i < 10 * e + 10) → Md q i = M q i := fun q i h1 h2 => (w2 q i h2).trans (x2 q i h1)
            refine ⟨_, _, _, e1, e2, fun i => x2 _ _ (by omega), x2 _ _ (by omega), n, K, t, F, G, c, A, B, c', A', B', l, s, kI_drs (iDrs_one he hD ⟨?_, fun i hi => ?_⟩ (fun q i hq _ => fd q i (by omega) (by omega))) h (fun q i hq => fd q i (by omega) (by omega))⟩
            · rw [fd _ 0 (by omega) (by omega), fd _ 1 (by omega) (by omega), fd 88 _ (by omega) (by omega)]
              exact Or.inr ⟨g0, g1, g2, g3⟩
            · obtain ⟨o1, o2, o3, o4, o5, o6⟩ := d2 i hi
              rw [fd (69 + 3 * e) 0 (by omega) (by omega), fd (70 + 3 * e) i (by omega) (by omega), fd 89 _ (by omega) (by omega), w2 (71 + 3 * e) i (by omega), x3 i hi, w3 i hi]
              by_cases him : i < m
              · have hv := hV2 i him
                exact ⟨o1, o2, o3, hv.1, rfl, fun _ h5 => hv.2 ((hsame i him).symm.trans h5)⟩
              · rw [hV3 i (by omega)]
                exact ⟨o1, o2, o3, o4, rfl, o6⟩
  · rw [decide_eq_false h0] at c1 c2
    refine kPair_ro (-2) hI (c1.trans ?_) (c2.trans ?_)
    · simp (disch := omega) only [gInb_t, gLt_t, gLt_f, gEq_t, gEq_f, gIx_nat, gIx_id, gIf, cond_true, cond_false, gCi_some, gCv_some, gCr_some, gB01_0, gB01_1, gBi_01, gU_same, gU_off, gW_id, Int.toNat_natCast, Int.toNat_add, Int.toNat_mul, Int.reduceToNat, Nat.add_zero, Int.add_zero, bI_eq0, bI_B, Bool.not_true, Bool.not_false, bI_t, bI_f]
    · simp (disch := omega) only [gInb_t, gLt_t, gLt_f, gEq_t, gEq_f, gIx_nat, gIx_id, gIf, cond_true, cond_false, gCi_some, gCv_some, gCr_some, gB01_0, gB01_1, gBi_01, gU_same, gU_off, gW_id, Int.toNat_natCast, Int.toNat_add, Int.toNat_mul, Int.reduceToNat, Nat.add_zero, Int.add_zero, bI_eq0, bI_B, Bool.not_true, Bool.not_false, bI_t, bI_f]
