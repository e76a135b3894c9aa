-- 52: calls that read
theorem s_xload0 (N d p n : Nat) (K : Nat → Nat) (t : Int) (F : Nat → List Int) (M : gM) (hN : 10 ≤ N) (hn : n ≤ 7) (hp : p < n) (hK : kKx M n K) (hF : kOk n t F) (hG : kG M n 8 t F) : gEv N (d + 3) 27 [.inr (.inr 7), .inl (p : Int), .inl 0] M = some (M, some (.inl (ld K F 0 p))) := s_xload N d p n 0 K t F M hN hn hp (by omega) hK hF hG
theorem s_xahead0 (N d p o n : Nat) (K : Nat → Nat) (t : Int) (F : Nat → List Int) (M : gM) (hN : 10 ≤ N) (hn : n ≤ 7) (hp : p < n) (ho : o < n) (hK : kKx M n K) (hF : kOk n t F) (hG : kG M n 8 t F) : gEv N (d + 4) 28 [.inr (.inr 7), .inl (p : Int), .inl (o : Int), .inl 0] M = some (M, some (.inl (bI (ahB K F 0 p o)))) := s_xahead N d p o n 0 K t F M hN hn hp ho (by omega) hK hF hG
theorem s_xplace0 (N d p n : Nat) (K : Nat → Nat) (t : Int) (F : Nat → List Int) (M : gM) (hN : 10 ≤ N) (hn : n ≤ 7) (hp : p < n) (hK : kKx M n K) (hF : kOk n t F) (hG : kG M n 8 t F) : gEv N (d + 5) 29 [.inr (.inr 7), .inl (p : Int), .inl 0] M = some (M, some (.inl (plN K F n 0 p))) := s_xplace N d p n 0 K t F M hN hn hp (by omega) hK hF hG
theorem s_mload0 (N d p n : Nat) (K : Nat → Nat) (t : Int) (F : Nat → List Int) (M : gM) (hN : 10 ≤ N) (hn : n ≤ 7) (hp : p < n) (hK : kKm M n K) (hF : kOk n t F) (hG : kH M n 0 t F) : gEv N (d + 3) 120 [.inr (.inr 82), .inl 0, .inl (p : Int)] M = some (M, some (.inl (ld K F 0 p))) := s_mload N d p n 0 0 K t F M hN hn hp (by omega) hK hF.2.2 (kH_z hF hG)
theorem s_mahead0 (N d p o n : Nat) (K : Nat → Nat) (t : Int) (F : Nat → List Int) (M : gM) (hN : 10 ≤ N) (hn : n ≤ 7) (hp : p < n) (ho : o < n) (hK : kKm M n K) (hF : kOk n t F) (hG : kH M n 0 t F) : gEv N (d + 4) 125 [.inr (.inr 82), .inl 0, .inl (p : Int), .inl (o : Int)] M = some (M, some (.inl (bI (ahB K F 0 p o)))) := s_mahead N d p o n 0 0 K t F M hN hn hp ho (by omega) hK hF.2.2 (kH_z hF hG)
theorem s_mplace0 (N d p n : Nat) (K : Nat → Nat) (t : Int) (F : Nat → List Int) (M : gM) (hN : 10 ≤ N) (hn : n ≤ 7) (hp : p < n) (hK : kKm M n K) (hF : kOk n t F) (hG : kH M n 0 t F) : gEv N (d + 5) 126 [.inr (.inr 82), .inl 0, .inl (p : Int)] M = some (M, some (.inl (plN K F n 0 p))) := s_mplace N d p n 0 0 K t F M hN hn hp (by omega) hK hF.2.2 (kH_z hF hG)
theorem s_mload4 (N d p n c : Nat) (K : Nat → Nat) (t : Int) (F : Nat → List Int) (M : gM) (hN : 10 ≤ N) (hn : n ≤ 7) (hp : p < n) (hK : kKm M n K) (hF : ∀ q, q < n → kOkL (F q)) (hG : kH M n 414 t (kFd K F c)) : gEv N (d + 3) 120 [.inr (.inr 82), .inl 414, .inl (p : Int)] M = some (M, some (.inl (ld K F c p))) := s_mload N d p n c 414 K t F M hN hn hp (by omega) hK hF hG
theorem s_mahead4 (N d p o n c : Nat) (K : Nat → Nat) (t : Int) (F : Nat → List Int) (M : gM) (hN : 10 ≤ N) (hn : n ≤ 7) (hp : p < n) (ho : o < n) (hK : kKm M n K) (hF : ∀ q, q < n → kOkL (F q)) (hG : kH M n 414 t (kFd K F c)) : gEv N (d + 4) 125 [.inr (.inr 82), .inl 414, .inl (p : Int), .inl (o : Int)] M = some (M, some (.inl (bI (ahB K F c p o)))) := s_mahead N d p o n c 414 K t F M hN hn hp ho (by omega) hK hF hG
theorem s_mplace4 (N d p n c : Nat) (K : Nat → Nat) (t : Int) (F : Nat → List Int) (M : gM) (hN : 10 ≤ N) (hn : n ≤ 7) (hp : p < n) (hK : kKm M n K) (hF : ∀ q, q < n → kOkL (F q)) (hG : kH M n 414 t (kFd K F c)) : gEv N (d + 5) 126 [.inr (.inr 82), .inl 414, .inl (p : Int)] M = some (M, some (.inl (plN K F n c p))) := s_mplace N d p n c 414 K t F M hN hn hp (by omega) hK hF hG
/-- whether a lies within; the class's, the model's -/
theorem s_xin (N d : Nat) (a b c : Int) (M : gM) (ha : rng a) (hb : rng b) (hc : rng c) : gEv N (d + 1) 91 [.inl a, .inl b, .inl c] M = some (M, some (.inl (bI (decide (b ≤ a ∧ a ≤ c))))) := by
  rw [s_within N d a b c M ha hb hc, gBi_bI]
theorem s_min (N d : Nat) (a b c x y : Int) (M : gM) (ha : rng a) (hb : rng b) (hc : rng c) (hx : x = b) (hy : y = c) : gEv N (d + 1) 99 [.inr (.inl (gW a)), .inr (.inl x), .inr (.inl y)] M = some (M, some (.inl (bI (decide (b ≤ a ∧ a ≤ c))))) := by
  subst hx; subst hy
  rw [gW_id ha.1 ha.2, s_in N d a _ _ M ha hb hc, gBi_bI]
theorem s_xhas (N d n : Nat) (a : Int) (M : gM) (hn : n ≤ 7) (h6 : M 6 0 = (n : Int)) (ha : rng a) : gEv N (d + 1) 24 [.inr (.inr 7), .inl a] M = some (M, some (.inl (bI (decide (0 ≤ a ∧ a < (n : Int)))))) := by
  rw [s_has N d n a M hn h6 ha, gBi_bI]
theorem s_mhas (N d n : Nat) (a : Int) (M : gM) (hn : n ≤ 7) (h6 : M 82 29 = (n : Int)) (ha : rng a) : gEv N (d + 2) 116 [.inr (.inr 82), .inl a] M = some (M, some (.inl (bI (decide (0 ≤ a ∧ a < (n : Int)))))) := by
  rw [s_isPerson N d n a M hn h6 ha, gBi_bI]
theorem s_xtwo (N d n : Nat) (a b : Int) (M : gM) (hn : n ≤ 7) (h6 : M 6 0 = (n : Int)) (ha : rng a) (hb : rng b) : gEv N (d + 2) 89 [.inr (.inr 1), .inl a, .inl b] M = some (M, some (.inl (bI (decide ((0 ≤ a ∧ a < (n : Int)) ∧ (0 ≤ b ∧ b < (n : Int)) ∧ a ≠ b))))) := by
  rw [s_areTwoX N d n a b M hn h6 ha hb, gBi_bI]
theorem s_mtwo (N d n : Nat) (a b : Int) (M : gM) (hn : n ≤ 7) (h6 : M 82 29 = (n : Int)) (ha : rng a) (hb : rng b) : gEv N (d + 3) 130 [.inr (.inr 82), .inl a, .inl b] M = some (M, some (.inl (bI (decide ((0 ≤ a ∧ a < (n : Int)) ∧ (0 ≤ b ∧ b < (n : Int)) ∧ a ≠ b))))) := by
  rw [s_areTwoM N d n a b M hn h6 ha hb, gBi_bI]
theorem rng_c {x : Int} (h1 : -2147483648 ≤ x) (h2 : x < 2147483648) : rng x := ⟨h1, h2⟩
theorem kPair_ro {N D kc km : Nat} {as : List gV} {M : gM} (r : Int) (hI : kInv M) (h1 : gEv N D kc (.inr (.inr 1) :: as) M = some (M, some (.inl r))) (h2 : gEv N D km (.inr (.inr 82) :: as) M = some (M, some (.inl r))) : kPair N D kc km as M := ⟨M, r, M, h1, h2, fun _ => rfl, rfl, hI⟩
/-- places of scratch alone have changed -/
theorem kPair_sc {N D kc km : Nat} {as : List gV} {M M1 M2 : gM} (r : Int) (hI : kInv M) (h1 : gEv N D kc (.inr (.inr 1) :: as) M = some (M1, some (.inl r))) (h2 : gEv N D km (.inr (.inr 82) :: as) M1 = some (M2, some (.inl r))) (e1 : ∀ q i, ¬ kScr q i → M1 q i = M q i) (e2 : ∀ q i, ¬ kScr q i → M2 q i = M1 q i) : kPair N D kc km as M := by
  obtain ⟨n, K, t, F, G, c, A, B, c', A', B', l, s, h⟩ := hI
  refine ⟨M1, r, M2, h1, h2, fun i => e1 _ _ ?_, e1 _ _ ?_, n, K, t, F, G, c, A, B, c', A', B', l, s, kI_scr h (fun q i hq => (e2 q i hq).trans (e1 q i hq))⟩
  · unfold kScr; omega
  · unfold kScr; omega
theorem fadeTab {k : Nat} (h : k < 5) : ((List.getD [4, 2, 4, 7, 1] k 0 : Nat) : Int) - 1 = (fadesN k : Int) := by
  match k, h with
  | 0, _ => rfl
  | 1, _ => rfl
  | 2, _ => rfl
  | 3, _ => rfl
  | 4, _ => rfl
theorem p_person (N d : Nat) (a b : Int) (M : gM) (hN : 100000 ≤ N) (hI : kInv M) (ha : rng a) (hb : rng b) : kPair N (d + 20) 57 127 [.inl a, .inl b] M := by
  obtain ⟨n, K, t, F, G, c, A, B, c', A', B', l, s, h⟩ := id hI
  obtain ⟨hP, hW, hT, hQ, hQ', hX, hU, hKp, hS, hD, hw, hz⟩ := id h
  have hn := hP.1
  have h6 := hP.2.1
  have m29 := hP.2.2.1
  have hKx := iPpl_kx hP
  have hKm := iPpl_km hP
  obtain ⟨hOk, hG8, hH0⟩ := id hW
  have hb1 := hb.1
  have hb2 := hb.2
  by_cases hp : 0 ≤ a ∧ a < (n : Int)
  · obtain ⟨p, rfl⟩ : ∃ p : Nat, a = (p : Int) := ⟨a.toNat, by omega⟩
    have hpn : p < n := by omega
    obtain ⟨k5, x7, m30, m92⟩ := hP.2.2.2.2 p hpn
    have x9 := (hG8.2 p hpn).1
    have m21 := (hH0.2 p hpn).1
    simp only [Nat.zero_add] at m21
    have c1 : gEv N (d + 20) 57 [.inr (.inr 1), .inl (p : Int), .inl b] M = _ := q_X9_person N (d + 19) _ _ M
    have c2 : gEv N (d + 20) 127 [.inr (.inr 82), .inl (p : Int), .inl b] M = _ := q_X10_person N (d + 19) _ _ M
    rw [s_xhas _ _ n _ _ hn h6 ha, decide_eq_true hp, gCi_some] at c1
    rw [s_mhas _ _ n _ _ hn m29 ha, decide_eq_true hp, gCi_some] at c2
    by_cases h0 : b = 0
    · subst h0
      refine kPair_ro (K p : Int) hI (c1.trans ?_) (c2.trans ?_)
      · simp (disch := omega) only [gInb_t, gLt_t, gLt_f, gEq_t, gEq_f, gIx_nat, gIx_id, gIf, cond_true, cond_false, gCi_some, gCv_some, gCr_some, gB01_0, gB01_1, gBi_01, gU_same, gU_off, gW_id, Int.toNat_natCast, Int.toNat_add, Int.toNat_mul, Int.reduceToNat, Nat.add_zero, Int.add_zero, bI_eq0, bI_B, Bool.not_true, Bool.not_false, bI_t, bI_f, x7]
      · simp (disch := omega) only [gInb_t, gLt_t, gLt_f, gEq_t, gEq_f, gIx_nat, gIx_id, gIf, cond_true, cond_false, gCi_some, gCv_some, gCr_some, gB01_0, gB01_1, gBi_01, gU_same, gU_off, gW_id, Int.toNat_natCast, Int.toNat_add, Int.toNat_mul, Int.reduceToNat, Nat.add_zero, Int.add_zero, bI_eq0, bI_B, Bool.not_true, Bool.not_false, bI_t, bI_f, m30]
    by_cases h0 : b = 1
    · subst h0
      refine kPair_ro (ld K F 0 p) hI (c1.trans ?_) (c2.trans ?_)
      · rw [s_xload0 N _ p n K t F M (by omega) hn hpn hKx hOk hG8]; simp (disch := omega) only [gInb_t, gLt_t, gLt_f, gEq_t, gEq_f, gIx_nat, gIx_id, gIf, cond_true, cond_false, gCi_some, gCv_some, gCr_some, gB01_0, gB01_1, gBi_01, gU_same, gU_off, gW_id, Int.toNat_natCast, Int.toNat_add, Int.toNat_mul, Int.reduceToNat, Nat.add_zero, Int.add_zero, bI_eq0, bI_B, Bool.not_true, Bool.not_false, bI_t, bI_f]
      · rw [s_mload0 N _ p n K t F M (by omega) hn hpn hKm hOk hH0]; simp (disch := omega) only [gInb_t, gLt_t, gLt_f, gEq_t, gEq_f, gIx_nat, gIx_id, gIf, cond_true, cond_false, gCi_some, gCv_some, gCr_some, gB01_0, gB01_1, gBi_01, gU_same, gU_off, gW_id, Int.toNat_natCast, Int.toNat_add, Int.toNat_mul, Int.reduceToNat, Nat.add_zero, Int.add_zero, bI_eq0, bI_B, Bool.not_true, Bool.not_false, bI_t, bI_f]
    by_cases h0 : b = 2
    · subst h0
      refine kPair_ro ((F p).length : Int) hI (c1.trans ?_) (c2.trans ?_)
      · simp (disch := omega) only [gInb_t, gLt_t, gLt_f, gEq_t, gEq_f, gIx_nat, gIx_id, gIf, cond_true, cond_false, gCi_some, gCv_some, gCr_some, gB01_0, gB01_1, gBi_01, gU_same, gU_off, gW_id, Int.toNat_natCast, Int.toNat_add, Int.toNat_mul, Int.reduceToNat, Nat.add_zero, Int.add_zero, bI_eq0, bI_B, Bool.not_true, Bool.not_false, bI_t, bI_f, x9]
      · simp (disch := omega) only [gInb_t, gLt_t, gLt_f, gEq_t, gEq_f, gIx_nat, gIx_id, gIf, cond_true, cond_false, gCi_some, gCv_some, gCr_some, gB01_0, gB01_1, gBi_01, gU_same, gU_off, gW_id, Int.toNat_natCast, Int.toNat_add, Int.toNat_mul, Int.reduceToNat, Nat.add_zero, Int.add_zero, bI_eq0, bI_B, Bool.not_true, Bool.not_false, bI_t, bI_f, m21]
    by_cases h0 : b = 3
    · subst h0
      refine kPair_ro (fadesN (K p) : Int) hI (c1.trans ?_) (c2.trans ?_)
      · simp (disch := omega) only [gInb_t, gLt_t, gLt_f, gEq_t, gEq_f, gIx_nat, gIx_id, gIf, cond_true, cond_false, gCi_some, gCv_some, gCr_some, gB01_0, gB01_1, gBi_01, gU_same, gU_off, gW_id, Int.toNat_natCast, Int.toNat_add, Int.toNat_mul, Int.reduceToNat, Nat.add_zero, Int.add_zero, bI_eq0, bI_B, Bool.not_true, Bool.not_false, bI_t, bI_f, x7, fadeTab k5]
      · simp (disch := omega) only [gInb_t, gLt_t, gLt_f, gEq_t, gEq_f, gIx_nat, gIx_id, gIf, cond_true, cond_false, gCi_some, gCv_some, gCr_some, gB01_0, gB01_1, gBi_01, gU_same, gU_off, gW_id, Int.toNat_natCast, Int.toNat_add, Int.toNat_mul, Int.reduceToNat, Nat.add_zero, Int.add_zero, bI_eq0, bI_B, Bool.not_true, Bool.not_false, bI_t, bI_f, m30, s_mfades N _ (K p) M k5]
    by_cases h0 : b = 4
    · subst h0
      refine kPair_ro (plN K F n 0 p) hI (c1.trans ?_) (c2.trans ?_)
      · rw [s_xplace0 N _ p n K t F M (by omega) hn hpn hKx hOk hG8]; simp (disch := omega) only [gInb_t, gLt_t, gLt_f, gEq_t, gEq_f, gIx_nat, gIx_id, gIf, cond_true, cond_false, gCi_some, gCv_some, gCr_some, gB01_0, gB01_1, gBi_01, gU_same, gU_off, gW_id, Int.toNat_natCast, Int.toNat_add, Int.toNat_mul, Int.reduceToNat, Nat.add_zero, Int.add_zero, bI_eq0, bI_B, Bool.not_true, Bool.not_false, bI_t, bI_f]
      · rw [s_mplace0 N _ p n K t F M (by omega) hn hpn hKm hOk hH0]; simp (disch := omega) only [gInb_t, gLt_t, gLt_f, gEq_t, gEq_f, gIx_nat, gIx_id, gIf, cond_true, cond_false, gCi_some, gCv_some, gCr_some, gB01_0, gB01_1, gBi_01, gU_same, gU_off, gW_id, Int.toNat_natCast, Int.toNat_add, Int.toNat_mul, Int.reduceToNat, Nat.add_zero, Int.add_zero, bI_eq0, bI_B, Bool.not_true, Bool.not_false, bI_t, bI_f]
    refine kPair_ro (-3) hI (c1.trans ?_) (c2.trans ?_)
    · simp (disch := omega) only [gInb_t, gLt_t, gLt_f, gEq_t, gEq_f, gIx_nat, gIx_id, gIf, cond_true, cond_false, gCi_some, gCv_some, gCr_some, gB01_0, gB01_1, gBi_01, gU_same, gU_off, gW_id, Int.toNat_natCast, Int.toNat_add, Int.toNat_mul, Int.reduceToNat, Nat.add_zero, Int.add_zero, bI_eq0, bI_B, Bool.not_true, Bool.not_false, bI_t, bI_f]
    · simp (disch := omega) only [gInb_t, gLt_t, gLt_f, gEq_t, gEq_f, gIx_nat, gIx_id, gIf, cond_true, cond_false, gCi_some, gCv_some, gCr_some, gB01_0, gB01_1, gBi_01, gU_same, gU_off, gW_id, Int.toNat_natCast, Int.toNat_add, Int.toNat_mul, Int.reduceToNat, Nat.add_zero, Int.add_zero, bI_eq0, bI_B, Bool.not_true, Bool.not_false, bI_t, bI_f]
  · refine kPair_ro (-2) hI ?_ ?_
    · rw [q_X9_person, s_xhas _ _ n _ _ hn h6 ha, decide_eq_false hp]; simp (disch := omega) only [gInb_t, gLt_t, gLt_f, gEq_t, gEq_f, gIx_nat, gIx_id, gIf, cond_true, cond_false, gCi_some, gCv_some, gCr_some, gB01_0, gB01_1, gBi_01, gU_same, gU_off, gW_id, Int.toNat_natCast, Int.toNat_add, Int.toNat_mul, Int.reduceToNat, Nat.add_zero, Int.add_zero, bI_eq0, bI_B, Bool.not_true, Bool.not_false, bI_t, bI_f]
    · rw [q_X10_person, s_mhas _ _ n _ _ hn m29 ha, decide_eq_false hp]; simp (disch := omega) only [gInb_t, gLt_t, gLt_f, gEq_t, gEq_f, gIx_nat, gIx_id, gIf, cond_true, cond_false, gCi_some, gCv_some, gCr_some, gB01_0, gB01_1, gBi_01, gU_same, gU_off, gW_id, Int.toNat_natCast, Int.toNat_add, Int.toNat_mul, Int.reduceToNat, Nat.add_zero, Int.add_zero, bI_eq0, bI_B, Bool.not_true, Bool.not_false, bI_t, bI_f]
