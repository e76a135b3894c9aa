-- 54: foretold: behind, enters, ahead, wrong
theorem l_lay (N d n : Nat) (K : Nat → Nat) (t : Int) (F : Nat → List Int) (c : Nat) (hN : 10 ≤ N) (hn : n ≤ 7) (hc : c ≤ 60) (hF : kOk n t F) : ∀ (r k z : Nat) (M : gM), k + r = c → r < z → kKm M n K → kH M n 414 (t + (k : Int)) (kFd K F k) →
    ∃ M', L_X10_layTried_12 (gEv N (d + 2)) z (c : Int) (k : Int) M = some (M', none) ∧ kH M' n 414 (t + (c : Int)) (kFd K F c) ∧ (∀ q i, ¬ (q = 82 ∧ 414 ≤ i ∧ i < 443) → M' q i = M q i) := by
  intro r
  induction r with
  | zero =>
    intro k z M hk hz hK hH
    obtain ⟨z, rfl⟩ : ∃ y, z = y + 1 := ⟨z - 1, by omega⟩
    have : k = c := by omega
    subst this
    rw [q_X10_layTried_12]
    exact ⟨M, by simp (disch := omega) only [gInb_t, gLt_t, gLt_f, gEq_t, gEq_f, gIx_nat, gIx_id, gIf, cond_true, cond_false, gCi_some, gCv_some, gCr_some, gB01_0, gB01_1, gBi_01, gU_same, gU_off, gW_id, Int.toNat_natCast, Int.toNat_add, Int.toNat_mul, Int.reduceToNat, Nat.add_zero, Int.add_zero], hH, fun _ _ _ => rfl⟩
  | succ r ih =>
    intro k z M hk hz hK hH
    obtain ⟨z, rfl⟩ : ∃ y, z = y + 1 := ⟨z - 1, by omega⟩
    obtain ⟨M1, e1, e2, e3⟩ := s_passes N d 414 n K (t + (k : Int)) (kFd K F k) M (by omega) (by omega) (by omega) hn (kFd_ok hF.2.2) hK hH
    rw [kFd_pass] at e2
    have hK1 : kKm M1 n K := ⟨by rw [e3 _ _ (by omega)]; exact hK.1, fun p hp => ⟨(hK.2 p hp).1, by rw [e3 _ _ (by omega)]; exact (hK.2 p hp).2⟩⟩
    obtain ⟨M2, f1, f2, f3⟩ := ih (k + 1) z M1 (by omega) (by omega) hK1 (kH_ext e2 (by omega) (fun _ _ => rfl))
    refine ⟨M2, ?_, f2, fun q i hq => (f3 q i hq).trans (e3 q i (by omega))⟩
    have e1' : gEv N (d + 2) 124 [.inr (.inr 82), .inl 414] M = some (M1, none) := e1
    rw [q_X10_layTried_12, e1', gCv_some, cast_1 k, f1]
    simp (disch := omega) only [gInb_t, gLt_t, gLt_f, gEq_t, gEq_f, gIx_nat, gIx_id, gIf, cond_true, cond_false, gCi_some, gCv_some, gCr_some, gB01_0, gB01_1, gBi_01, gU_same, gU_off, gW_id, Int.toNat_natCast, Int.toNat_add, Int.toNat_mul, Int.reduceToNat, Nat.add_zero, Int.add_zero]
theorem s_lay (N d n : Nat) (K : Nat → Nat) (t : Int) (F : Nat → List Int) (c : Nat) (M : gM) (hN : 100 ≤ N) (hn : n ≤ 7) (hc : c ≤ 60) (hF : kOk n t F) (hK : kKm M n K) (hH : kH M n 0 t F) :
    ∃ M', gEv N (d + 3) 140 [.inr (.inr 82), .inl (c : Int)] M = some (M', none) ∧ kH M' n 414 (t + (c : Int)) (kFd K F c) ∧ (∀ q i, ¬ (q = 82 ∧ 414 ≤ i ∧ i < 443) → M' q i = M q i) := by
  have e : gEv N (d + 2) 114 [.inr (.inr 82), .inl 0, .inl 414, .inl 29] M = some (gCp M 82 0 82 414 29, none) := s_copyRow N (d + 1) 0 414 29 M (by omega) (by omega) (by omega) (by omega)
  have hr := kCp_row (b := 414) (kH_z (K := K) hF hH) (kFd_ok hF.2.2) hn 29 (by omega)
  have hf : ∀ q i, ¬ (q = 82 ∧ 414 ≤ i ∧ i < 443) → gCp M 82 0 82 414 29 q i = M q i := fun q i hq => gCp_off (by omega)
  obtain ⟨M', e1, e2, e3⟩ := l_lay N d n K t F c (by omega) hn hc hF c 0 N (gCp M 82 0 82 414 29) (by omega) (by omega) ⟨by rw [hf _ _ (by omega)]; exact hK.1, fun p hp => ⟨(hK.2 p hp).1, by rw [hf _ _ (by omega)]; exact (hK.2 p hp).2⟩⟩ (kH_ext hr (by omega) (fun _ _ => rfl))
  refine ⟨M', ?_, e2, fun q i hq => (e3 q i hq).trans (hf q i hq)⟩
  rw [q_X10_layTried, e, gCv_some]
  exact e1
theorem kKm_fr {M M' : gM} {n : Nat} {K : Nat → Nat} (h : kKm M n K) (hn : n ≤ 7) (e : ∀ i, 29 ≤ i → i < 37 → M' 82 i = M 82 i) : kKm M' n K := ⟨by rw [e _ (by omega) (by omega)]; exact h.1, fun p hp => ⟨(h.2 p hp).1, by rw [e _ (by omega) (by omega)]; exact (h.2 p hp).2⟩⟩
theorem tried_scr {M M' : gM} (e : ∀ q i, ¬ (q = 82 ∧ 414 ≤ i ∧ i < 443) → M' q i = M q i) : ∀ q i, ¬ kScr q i → M' q i = M q i := fun q i hq => e q i (by unfold kScr at hq; omega)
theorem stepK_bd {x : Int} (h0 : 0 ≤ x) : 0 ≤ stepK x ∧ stepK x ≤ 9 := by
  unfold stepK
  split <;> omega
theorem p_behind (N d : Nat) (a b w : Int) (M : gM) (hN : 100000 ≤ N) (hI : kInv M) (ha : rng a) (hb : rng b) (hw' : rng w) : kPair N (d + 20) 68 141 [.inl a, .inl b, .inl w] M := by
  obtain ⟨n, K, t, F, G, c, A, B, c', A', B', l, s, h⟩ := id hI
  obtain ⟨hP, hW, hT, hQ, hQ', hX, hU, hKp, hS, hD, hw, hz⟩ := id h
  have hn := hP.1
  have h6 := hP.2.1
  have m29 := hP.2.2.1
  have hKx := iPpl_kx hP
  have hKm := iPpl_km hP
  obtain ⟨hOk, hG8, hH0⟩ := id hW
  have hw1 := hw'.1
  have hw2 := hw'.2
  by_cases hp : 0 ≤ a ∧ a < (n : Int)
  · obtain ⟨p, rfl⟩ : ∃ p : Nat, a = (p : Int) := ⟨a.toNat, by omega⟩
    have hpn : p < n := by omega
    have c1 : gEv N (d + 20) 68 [.inr (.inr 1), .inl (p : Int), .inl b, .inl w] M = _ := q_X9_behind N (d + 19) _ _ _ M
    have c2 : gEv N (d + 20) 141 [.inr (.inr 82), .inl (p : Int), .inl b, .inl w] M = _ := q_X10_behind N (d + 19) _ _ _ M
    rw [s_xhas _ _ n _ _ hn h6 ha, decide_eq_true hp, gCi_some, s_xin N _ b 0 60 M hb (rng_c (by omega) (by omega)) (rng_c (by omega) (by omega)), gCi_some, s_xin N _ w 0 1 M hw' (rng_c (by omega) (by omega)) (rng_c (by omega) (by omega)), gCi_some] at c1
    rw [s_mhas _ _ n _ _ hn m29 ha, decide_eq_true hp, gCi_some, s_min N _ b 0 60 (((0 : Nat) : Int)) (((60 : Nat) : Int) - ((0 : Nat) : Int)) M hb (rng_c (by omega) (by omega)) (rng_c (by omega) (by omega)) rfl rfl, gCi_some, s_min N _ w 0 1 (((0 : Nat) : Int)) (((1 : Nat) : Int)) M hw' (rng_c (by omega) (by omega)) (rng_c (by omega) (by omega)) rfl rfl, gCi_some] at c2
    by_cases h0 : 0 ≤ b ∧ b ≤ 60
    · rw [decide_eq_true h0] at c1 c2
      obtain ⟨k, rfl⟩ : ∃ k : Nat, b = (k : Int) := ⟨b.toNat, by omega⟩
      by_cases h1 : 0 ≤ w ∧ w ≤ 1
      · rw [decide_eq_true h1] at c1 c2
        obtain ⟨M', e1, e2, e3⟩ := s_lay N (d + 16) n K t F k M (by omega) hn (by omega) hOk hKm hH0
        rw [s_xload N _ p n k K t F M (by omega) hn hpn (by omega) hKx hOk hG8] at c1
        rw [e1, gCv_some, s_mload4 N _ p n k K _ F M' (by omega) hn hpn (kKm_fr hKm hn (fun i h1 h2 => e3 _ _ (by omega))) hOk.2.2 e2] at c2
        have bd := ld_bd (c := k) (hKx.2 p hpn).1 (hOk.2.2 p hpn)
        by_cases h2 : w = 0
        · refine kPair_sc (ld K F k p) hI (c1.trans ?_) (c2.trans ?_) (fun _ _ _ => rfl) (tried_scr e3)
          · simp (disch := omega) only [gInb_t, gLt_t, gLt_f, gEq_t, gEq_f, gIx_nat, gIx_id, gIf, cond_true, cond_false, gCi_some, gCv_some, gCr_some, gB01_0, gB01_1, gBi_01, gU_same, gU_off, gW_id, Int.toNat_natCast, Int.toNat_add, Int.toNat_mul, Int.reduceToNat, Nat.add_zero, Int.add_zero, bI_eq0, bI_B, Bool.not_true, Bool.not_false, bI_t, bI_f]
          · simp (disch := omega) only [gInb_t, gLt_t, gLt_f, gEq_t, gEq_f, gIx_nat, gIx_id, gIf, cond_true, cond_false, gCi_some, gCv_some, gCr_some, gB01_0, gB01_1, gBi_01, gU_same, gU_off, gW_id, Int.toNat_natCast, Int.toNat_add, Int.toNat_mul, Int.reduceToNat, Nat.add_zero, Int.add_zero, bI_eq0, bI_B, Bool.not_true, Bool.not_false, bI_t, bI_f]
        · refine kPair_sc (stepK (ld K F k p)) hI (c1.trans ?_) (c2.trans ?_) (fun _ _ _ => rfl) (tried_scr e3)
          · simp (disch := omega) only [gInb_t, gLt_t, gLt_f, gEq_t, gEq_f, gIx_nat, gIx_id, gIf, cond_true, cond_false, gCi_some, gCv_some, gCr_some, gB01_0, gB01_1, gBi_01, gU_same, gU_off, gW_id, Int.toNat_natCast, Int.toNat_add, Int.toNat_mul, Int.reduceToNat, Nat.add_zero, Int.add_zero, bI_eq0, bI_B, Bool.not_true, Bool.not_false, bI_t, bI_f, s_stepX]
          · simp (disch := omega) only [gInb_t, gLt_t, gLt_f, gEq_t, gEq_f, gIx_nat, gIx_id, gIf, cond_true, cond_false, gCi_some, gCv_some, gCr_some, gB01_0, gB01_1, gBi_01, gU_same, gU_off, gW_id, Int.toNat_natCast, Int.toNat_add, Int.toNat_mul, Int.reduceToNat, Nat.add_zero, Int.add_zero, bI_eq0, bI_B, Bool.not_true, Bool.not_false, bI_t, bI_f, s_stepM]
      · rw [decide_eq_false h1] at c1 c2
        refine kPair_ro (-3) hI (c1.trans ?_) (c2.trans ?_)
        · simp (disch := omega) only [gInb_t, gLt_t, gLt_f, gEq_t, gEq_f, gIx_nat, gIx_id, gIf, cond_true, cond_false, gCi_some, gCv_some, gCr_some, gB01_0, gB01_1, gBi_01, gU_same, gU_off, gW_id, Int.toNat_natCast, Int.toNat_add, Int.toNat_mul, Int.reduceToNat, Nat.add_zero, Int.add_zero, bI_eq0, bI_B, Bool.not_true, Bool.not_false, bI_t, bI_f]
        · simp (disch := omega) only [gInb_t, gLt_t, gLt_f, gEq_t, gEq_f, gIx_nat, gIx_id, gIf, cond_true, cond_false, gCi_some, gCv_some, gCr_some, gB01_0, gB01_1, gBi_01, gU_same, gU_off, gW_id, Int.toNat_natCast, Int.toNat_add, Int.toNat_mul, Int.reduceToNat, Nat.add_zero, Int.add_zero, bI_eq0, bI_B, Bool.not_true, Bool.not_false, bI_t, bI_f]
    · rw [decide_eq_false h0] at c1 c2
      refine kPair_ro (-3) hI (c1.trans ?_) (c2.trans ?_)
      · simp (disch := omega) only [gInb_t, gLt_t, gLt_f, gEq_t, gEq_f, gIx_nat, gIx_id, gIf, cond_true, cond_false, gCi_some, gCv_some, gCr_some, gB01_0, gB01_1, gBi_01, gU_same, gU_off, gW_id, Int.toNat_natCast, Int.toNat_add, Int.toNat_mul, Int.reduceToNat, Nat.add_zero, Int.add_zero, bI_eq0, bI_B, Bool.not_true, Bool.not_false, bI_t, bI_f]
      · simp (disch := omega) only [gInb_t, gLt_t, gLt_f, gEq_t, gEq_f, gIx_nat, gIx_id, gIf, cond_true, cond_false, gCi_some, gCv_some, gCr_some, gB01_0, gB01_1, gBi_01, gU_same, gU_off, gW_id, Int.toNat_natCast, Int.toNat_add, Int.toNat_mul, Int.reduceToNat, Nat.add_zero, Int.add_zero, bI_eq0, bI_B, Bool.not_true, Bool.not_false, bI_t, bI_f]
  · refine kPair_ro (-2) hI ?_ ?_
    · rw [q_X9_behind, s_xhas _ _ n _ _ hn h6 ha, decide_eq_false hp]; simp (disch := omega) only [gInb_t, gLt_t, gLt_f, gEq_t, gEq_f, gIx_nat, gIx_id, gIf, cond_true, cond_false, gCi_some, gCv_some, gCr_some, gB01_0, gB01_1, gBi_01, gU_same, gU_off, gW_id, Int.toNat_natCast, Int.toNat_add, Int.toNat_mul, Int.reduceToNat, Nat.add_zero, Int.add_zero, bI_eq0, bI_B, Bool.not_true, Bool.not_false, bI_t, bI_f]
    · rw [q_X10_behind, s_mhas _ _ n _ _ hn m29 ha, decide_eq_false hp]; simp (disch := omega) only [gInb_t, gLt_t, gLt_f, gEq_t, gEq_f, gIx_nat, gIx_id, gIf, cond_true, cond_false, gCi_some, gCv_some, gCr_some, gB01_0, gB01_1, gBi_01, gU_same, gU_off, gW_id, Int.toNat_natCast, Int.toNat_add, Int.toNat_mul, Int.reduceToNat, Nat.add_zero, Int.add_zero, bI_eq0, bI_B, Bool.not_true, Bool.not_false, bI_t, bI_f]
theorem l_xenters (C : gCl) (n : Nat) (k c : Int) (f : Nat → Int) (M : gM) (hn : n ≤ 7) (h6 : M 6 0 = (n : Int)) (hk : rng k) (hf : ∀ j, rng (f j)) (hC : ∀ j, j < n → C 29 [.inr (.inr 7), .inl (j : Int), .inl c] M = some (M, some (.inl (f j)))) : ∀ (r j z : Nat), j + r = n → r < z → L_X9_enters_25 C z k c (j : Int) M = some (M, some (.inl (fB (fun q => decide (f q = k)) j r))) := by
  intro r
  obtain ⟨k1, k2⟩ := hk
  induction r with
  | zero =>
    intro j z hj hz
    obtain ⟨z, rfl⟩ : ∃ y, z = y + 1 := ⟨z - 1, by omega⟩
    rw [q_X9_enters_25, h6]
    simp (disch := omega) only [gInb_t, gLt_t, gLt_f, gEq_t, gEq_f, gIx_nat, gIx_id, gIf, cond_true, cond_false, gCi_some, gCv_some, gCr_some, gB01_0, gB01_1, gBi_01, gU_same, gU_off, gW_id, Int.toNat_natCast, Int.toNat_add, Int.toNat_mul, Int.reduceToNat, Nat.add_zero, Int.add_zero, fB]
  | succ r ih =>
    intro j z hj hz
    obtain ⟨z, rfl⟩ : ∃ y, z = y + 1 := ⟨z - 1, by omega⟩
    obtain ⟨f1, f2⟩ := hf j
    rw [q_X9_enters_25, h6, hC j (by omega), cast_1 j, gCi_some, ih (j + 1) z (by omega) (by omega)]
    simp only [fB]
    by_cases h : f j = k
    · simp (disch := omega) only [gInb_t, gLt_t, gLt_f, gEq_t, gEq_f, gIx_nat, gIx_id, gIf, cond_true, cond_false, gCi_some, gCv_some, gCr_some, gB01_0, gB01_1, gBi_01, gU_same, gU_off, gW_id, Int.toNat_natCast, Int.toNat_add, Int.toNat_mul, Int.reduceToNat, Nat.add_zero, Int.add_zero, h, decide_true]
    · simp (disch := omega) only [gInb_t, gLt_t, gLt_f, gEq_t, gEq_f, gIx_nat, gIx_id, gIf, cond_true, cond_false, gCi_some, gCv_some, gCr_some, gB01_0, gB01_1, gBi_01, gU_same, gU_off, gW_id, Int.toNat_natCast, Int.toNat_add, Int.toNat_mul, Int.reduceToNat, Nat.add_zero, Int.add_zero, decide_eq_false h]
theorem l_menters (C : gCl) (n : Nat) (k c : Int) (f : Nat → Int) (M : gM) (hn : n ≤ 7) (h6 : M 82 29 = (n : Int)) (hk : rng k) (hf : ∀ j, rng (f j)) (hC : ∀ j, j < n → C 126 [.inr (.inr 82), .inl 414, .inl (j : Int)] M = some (M, some (.inl (f j)))) : ∀ (r j z : Nat), j + r = n → r < z → L_X10_enters_34 C z k c (j : Int) M = some (M, some (.inl (fB (fun q => decide (f q = k)) j r))) := by
  intro r
  obtain ⟨k1, k2⟩ := hk
  have h29 : gIx 29 = 29 := gIx_e (n := 29) rfl (by omega)
  induction r with
  | zero =>
    intro j z hj hz
    obtain ⟨z, rfl⟩ : ∃ y, z = y + 1 := ⟨z - 1, by omega⟩
    rw [q_X10_enters_34, h29, h6]
    simp (disch := omega) only [gInb_t, gLt_t, gLt_f, gEq_t, gEq_f, gIx_nat, gIx_id, gIf, cond_true, cond_false, gCi_some, gCv_some, gCr_some, gB01_0, gB01_1, gBi_01, gU_same, gU_off, gW_id, Int.toNat_natCast, Int.toNat_add, Int.toNat_mul, Int.reduceToNat, Nat.add_zero, Int.add_zero, fB]
  | succ r ih =>
    intro j z hj hz
    obtain ⟨z, rfl⟩ : ∃ y, z = y + 1 := ⟨z - 1, by omega⟩
    obtain ⟨f1, f2⟩ := hf j
    rw [q_X10_enters_34, h29, h6, hC j (by omega), cast_1 j, gCi_some, ih (j + 1) z (by omega) (by omega)]
    simp only [fB]
    by_cases h : f j = k
    · simp (disch := omega) only [gInb_t, gLt_t, gLt_f, gEq_t, gEq_f, gIx_nat, gIx_id, gIf, cond_true, cond_false, gCi_some, gCv_some, gCr_some, gB01_0, gB01_1, gBi_01, gU_same, gU_off, gW_id, Int.toNat_natCast, Int.toNat_add, Int.toNat_mul, Int.reduceToNat, Nat.add_zero, Int.add_zero, h, decide_true]
    · simp (disch := omega) only [gInb_t, gLt_t, gLt_f, gEq_t, gEq_f, gIx_nat, gIx_id, gIf, cond_true, cond_false, gCi_some, gCv_some, gCr_some, gB01_0, gB01_1, gBi_01, gU_same, gU_off, gW_id, Int.toNat_natCast, Int.toNat_add, Int.toNat_mul, Int.reduceToNat, Nat.add_zero, Int.add_zero, decide_eq_false h]
theorem p_enters (N d : Nat) (a b : Int) (M : gM) (hN : 100000 ≤ N) (hI : kInv M) (ha : rng a) (hb : rng b) : kPair N (d + 20) 69 142 [.inl a, .inl b] M := by
  obtain ⟨n, K, t, F, G, c, A, B, c', A', B', l, s, h⟩ := id hI
  obtain ⟨hP, hW, hT, hQ, hQ', hX, hU, hKp, hS, hD, hw, hz⟩ := id h
  have hn := hP.1
  have h6 := hP.2.1
  have m29 := hP.2.2.1
  have hKx := iPpl_kx hP
  have hKm := iPpl_km hP
  obtain ⟨hOk, hG8, hH0⟩ := id hW
  have c1 : gEv N (d + 20) 69 [.inr (.inr 1), .inl a, .inl b] M = _ := q_X9_enters N (d + 19) _ _ M
  have c2 : gEv N (d + 20) 142 [.inr (.inr 82), .inl a, .inl b] M = _ := q_X10_enters N (d + 19) _ _ M
  rw [s_xin N _ a 0 6 M ha (rng_c (by omega) (by omega)) (rng_c (by omega) (by omega)), gCi_some, s_xin N _ b 0 60 M hb (rng_c (by omega) (by omega)) (rng_c (by omega) (by omega)), gCi_some] at c1
  rw [s_min N _ a 0 6 (((0 : Nat) : Int)) (((6 : Nat) : Int) - ((0 : Nat) : Int)) M ha (rng_c (by omega) (by omega)) (rng_c (by omega) (by omega)) rfl rfl, gCi_some, s_min N _ b 0 60 (((0 : Nat) : Int)) (((60 : Nat) : Int) - ((0 : Nat) : Int)) M hb (rng_c (by omega) (by omega)) (rng_c (by omega) (by omega)) rfl rfl, gCi_some] at c2
  by_cases h0 : 0 ≤ a ∧ a ≤ 6
  · rw [decide_eq_true h0] at c1 c2
    by_cases h1 : 0 ≤ b ∧ b ≤ 60
    · rw [decide_eq_true h1] at c1 c2
      obtain ⟨k, rfl⟩ : ∃ k : Nat, b = (k : Int) := ⟨b.toNat, by omega⟩
      obtain ⟨M', e1, e2, e3⟩ := s_lay N (d + 16) n K t F k M (by omega) hn (by omega) hOk hKm hH0
      have hbd : ∀ j, rng (plN K F n k j) := fun j => by
        have := plN_bd K F n k j
        exact rng_c (by omega) (by omega)
      have hK' := kKm_fr (M' := M') hKm hn (fun i h1 h2 => e3 _ _ (by omega))
      have l1 := l_xenters (gEv N (d + 19)) n a (k : Int) (fun q => plN K F n k q) M hn h6 ha hbd (fun j hj => s_xplace N (d + 14) j n k K t F M (by omega) hn hj (by omega) hKx hOk hG8) n 0 N (by omega) (by omega)
      have l2 := l_menters (gEv N (d + 19)) n a (k : Int) (fun q => plN K F n k q) M' hn hK'.1 ha hbd (fun j hj => s_mplace4 N (d + 14) j n k K _ F M' (by omega) hn hj hK' hOk.2.2 e2) n 0 N (by omega) (by omega)
      rw [e1, gCv_some] at c2
      refine kPair_sc (fB (fun q => decide (plN K F n k q = a)) 0 n) hI (c1.trans ?_) (c2.trans ?_) (fun _ _ _ => rfl) (tried_scr e3)
      · simp (disch := omega) only [gInb_t, gLt_t, gLt_f, gEq_t, gEq_f, gIx_nat, gIx_id, gIf, cond_true, cond_false, gCi_some, gCv_some, gCr_some, gB01_0, gB01_1, gBi_01, gU_same, gU_off, gW_id, Int.toNat_natCast, Int.toNat_add, Int.toNat_mul, Int.reduceToNat, Nat.add_zero, Int.add_zero, bI_eq0, bI_B, Bool.not_true, Bool.not_false, bI_t, bI_f]
        exact l1
      · simp (disch := omega) only [gInb_t, gLt_t, gLt_f, gEq_t, gEq_f, gIx_nat, gIx_id, gIf, cond_true, cond_false, gCi_some, gCv_some, gCr_some, gB01_0, gB01_1, gBi_01, gU_same, gU_off, gW_id, Int.toNat_natCast, Int.toNat_add, Int.toNat_mul, Int.reduceToNat, Nat.add_zero, Int.add_zero, bI_eq0, bI_B, Bool.not_true, Bool.not_false, bI_t, bI_f]
        exact l2
    · rw [decide_eq_false h1] at c1 c2
      refine kPair_ro (-3) hI (c1.trans ?_) (c2.trans ?_)
      · simp (disch := omega) only [gInb_t, gLt_t, gLt_f, gEq_t, gEq_f, gIx_nat, gIx_id, gIf, cond_true, cond_false, gCi_some, gCv_some, gCr_some, gB01_0, gB01_1, gBi_01, gU_same, gU_off, gW_id, Int.toNat_natCast, Int.toNat_add, Int.toNat_mul, Int.reduceToNat, Nat.add_zero, Int.add_zero, bI_eq0, bI_B, Bool.not_true, Bool.not_false, bI_t, bI_f]
      · simp (disch := omega) only [gInb_t, gLt_t, gLt_f, gEq_t, gEq_f, gIx_nat, gIx_id, gIf, cond_true, cond_false, gCi_some, gCv_some, gCr_some, gB01_0, gB01_1, gBi_01, gU_same, gU_off, gW_id, Int.toNat_natCast, Int.toNat_add, Int.toNat_mul, Int.reduceToNat, Nat.add_zero, Int.add_zero, bI_eq0, bI_B, Bool.not_true, Bool.not_false, bI_t, bI_f]
  · rw [decide_eq_false h0] at c1 c2
    refine kPair_ro (-3) hI (c1.trans ?_) (c2.trans ?_)
    · simp (disch := omega) only [gInb_t, gLt_t, gLt_f, gEq_t, gEq_f, gIx_nat, gIx_id, gIf, cond_true, cond_false, gCi_some, gCv_some, gCr_some, gB01_0, gB01_1, gBi_01, gU_same, gU_off, gW_id, Int.toNat_natCast, Int.toNat_add, Int.toNat_mul, Int.reduceToNat, Nat.add_zero, Int.add_zero, bI_eq0, bI_B, Bool.not_true, Bool.not_false, bI_t, bI_f]
    · simp (disch := omega) only [gInb_t, gLt_t, gLt_f, gEq_t, gEq_f, gIx_nat, gIx_id, gIf, cond_true, cond_false, gCi_some, gCv_some, gCr_some, gB01_0, gB01_1, gBi_01, gU_same, gU_off, gW_id, Int.toNat_natCast, Int.toNat_add, Int.toNat_mul, Int.reduceToNat, Nat.add_zero, Int.add_zero, bI_eq0, bI_B, Bool.not_true, Bool.not_false, bI_t, bI_f]
theorem l_xahead (C : gCl) (a b : Int) (f : Nat → Bool) (M : gM) (hC : ∀ j : Nat, j ≤ 60 → C 28 [.inr (.inr 7), .inl a, .inl b, .inl (j : Int)] M = some (M, some (.inl (bI (f j))))) : ∀ (r j z : Nat), j + r = 61 → r < z → L_X9_ahead_14 C z a b (j : Int) M = some (M, some (.inl (fB f j r))) := by
  intro r
  induction r with
  | zero =>
    intro j z hj hz
    obtain ⟨z, rfl⟩ : ∃ y, z = y + 1 := ⟨z - 1, by omega⟩
    rw [q_X9_ahead_14]
    simp (disch := omega) only [gInb_t, gLt_t, gLt_f, gEq_t, gEq_f, gIx_nat, gIx_id, gIf, cond_true, cond_false, gCi_some, gCv_some, gCr_some, gB01_0, gB01_1, gBi_01, gU_same, gU_off, gW_id, Int.toNat_natCast, Int.toNat_add, Int.toNat_mul, Int.reduceToNat, Nat.add_zero, Int.add_zero, fB]
  | succ r ih =>
    intro j z hj hz
    obtain ⟨z, rfl⟩ : ∃ y, z = y + 1 := ⟨z - 1, by omega⟩
    rw [q_X9_ahead_14, hC j (by omega), cast_1 j, gCi_some, ih (j + 1) z (by omega) (by omega)]
    simp only [fB, bI_eq0]
    simp (disch := omega) only [gInb_t, gLt_t, gLt_f, gEq_t, gEq_f, gIx_nat, gIx_id, gIf, cond_true, cond_false, gCi_some, gCv_some, gCr_some, gB01_0, gB01_1, gBi_01, gU_same, gU_off, gW_id, Int.toNat_natCast, Int.toNat_add, Int.toNat_mul, Int.reduceToNat, Nat.add_zero, Int.add_zero]
    cases f j <;> rfl
theorem l_mahead (N d n p o : Nat) (K : Nat → Nat) (t : Int) (F : Nat → List Int) (hN : 10 ≤ N) (hn : n ≤ 7) (hp : p < n) (ho : o < n) (hF : kOk n t F) : ∀ (r j z : Nat) (M : gM), j + r = 61 → r < z → kKm M n K → kH M n 414 (t + (j : Int)) (kFd K F j) → ∃ M', L_X10_ahead_19 (gEv N (d + 4)) z (p : Int) (o : Int) (j : Int) M = some (M', some (.inl (fB (fun k => ahB K F k p o) j r))) ∧ (∀ q i, ¬ (q = 82 ∧ 414 ≤ i ∧ i < 443) → M' q i = M q i) := by
  intro r
  induction r with
  | zero =>
    intro j z M hj hz hK hH
    obtain ⟨z, rfl⟩ : ∃ y, z = y + 1 := ⟨z - 1, by omega⟩
    rw [q_X10_ahead_19]
    refine ⟨M, ?_, fun _ _ _ => rfl⟩
    simp (disch := omega) only [gInb_t, gLt_t, gLt_f, gEq_t, gEq_f, gIx_nat, gIx_id, gIf, cond_true, cond_false, gCi_some, gCv_some, gCr_some, gB01_0, gB01_1, gBi_01, gU_same, gU_off, gW_id, Int.toNat_natCast, Int.toNat_add, Int.toNat_mul, Int.reduceToNat, Nat.add_zero, Int.add_zero, fB]
  | succ r ih =>
    intro j z M hj hz hK hH
    obtain ⟨z, rfl⟩ : ∃ y, z = y + 1 := ⟨z - 1, by omega⟩
    obtain ⟨M1, e1, e2, e3⟩ := s_passes N (d + 2) 414 n K (t + (j : Int)) (kFd K F j) M (by omega) (by omega) (by omega) hn (kFd_ok hF.2.2) hK hH
    rw [kFd_pass] at e2
    obtain ⟨M2, f1, f2⟩ := ih (j + 1) z M1 (by omega) (by omega) (kKm_fr hK hn (fun i h1 h2 => e3 _ _ (by omega))) (kH_ext e2 (by omega) (fun _ _ => rfl))
    have e1' : gEv N (d + 4) 124 [.inr (.inr 82), .inl 414] M = some (M1, none) := e1
    rw [q_X10_ahead_19, s_mahead4 N d p o n j K _ F M (by omega) hn hp ho hK hF.2.2 hH, gCi_some, e1', gCv_some, cast_1 j, f1]
    simp only [fB, bI_eq0]
    cases hb : ahB K F j p o with
    | true => exact ⟨M, by simp (disch := omega) only [gInb_t, gLt_t, gLt_f, gEq_t, gEq_f, gIx_nat, gIx_id, gIf, cond_true, cond_false, gCi_some, gCv_some, gCr_some, gB01_0, gB01_1, gBi_01, gU_same, gU_off, gW_id, Int.toNat_natCast, Int.toNat_add, Int.toNat_mul, Int.reduceToNat, Nat.add_zero, Int.add_zero, Bool.not_true], fun _ _ _ => rfl⟩
    | false => exact ⟨M2, by simp (disch := omega) only [gInb_t, gLt_t, gLt_f, gEq_t, gEq_f, gIx_nat, gIx_id, gIf, cond_true, cond_false, gCi_some, gCv_some, gCr_some, gB01_0, gB01_1, gBi_01, gU_same, gU_off, gW_id, Int.toNat_natCast, Int.toNat_add, Int.toNat_mul, Int.reduceToNat, Nat.add_zero, Int.add_zero, Bool.not_false], fun q i hq => (f2 q i hq).trans (e3 q i (by omega))⟩
theorem p_ahead (N d : Nat) (a b : Int) (M : gM) (hN : 100000 ≤ N) (hI : kInv M) (ha : rng a) (hb : rng b) : kPair N (d + 20) 70 143 [.inl a, .inl b] M := by
  obtain ⟨n, K, t, F, G, c, A, B, c', A', B', l, s, h⟩ := id hI
  obtain ⟨hP, hW, hT, hQ, hQ', hX, hU, hKp, hS, hD, hw, hz⟩ := id h
  have hn := hP.1
  have h6 := hP.2.1
  have m29 := hP.2.2.1
  have hKx := iPpl_kx hP
  have hKm := iPpl_km hP
  obtain ⟨hOk, hG8, hH0⟩ := id hW
  have c1 : gEv N (d + 20) 70 [.inr (.inr 1), .inl a, .inl b] M = _ := q_X9_ahead N (d + 19) _ _ M
  have c2 : gEv N (d + 20) 143 [.inr (.inr 82), .inl a, .inl b] M = _ := q_X10_ahead N (d + 19) _ _ M
  rw [s_xtwo _ _ n _ _ _ hn h6 ha hb, gCi_some] at c1
  rw [s_mtwo _ _ n _ _ _ hn m29 ha hb, gCi_some] at c2
  by_cases h0 : (0 ≤ a ∧ a < (n : Int)) ∧ (0 ≤ b ∧ b < (n : Int)) ∧ a ≠ b
  · rw [decide_eq_true h0] at c1 c2
    obtain ⟨p, rfl⟩ : ∃ p : Nat, a = (p : Int) := ⟨a.toNat, by omega⟩
    obtain ⟨o, rfl⟩ : ∃ o : Nat, b = (o : Int) := ⟨b.toNat, by omega⟩
    obtain ⟨M1, e1, e2, e3⟩ := s_lay N (d + 16) n K t F 0 M (by omega) hn (by omega) hOk hKm hH0
    have e1' : gEv N (d + 19) 140 [.inr (.inr 82), .inl 0] M = some (M1, none) := e1
    obtain ⟨M2, f1, f2⟩ := l_mahead N (d + 15) n p o K t F (by omega) hn (by omega) (by omega) hOk 61 0 N M1 (by omega) (by omega) (kKm_fr hKm hn (fun i h1 h2 => e3 _ _ (by omega))) e2
    have l1 := l_xahead (gEv N (d + 19)) (p : Int) (o : Int) (fun k => ahB K F k p o) M (fun j hj => s_xahead N (d + 15) p o n j K t F M (by omega) hn (by omega) (by omega) hj hKx hOk hG8) 61 0 N (by omega) (by omega)
    rw [e1', gCv_some] at c2
    refine kPair_sc (fB (fun k => ahB K F k p o) 0 61) hI (c1.trans ?_) (c2.trans ?_) (fun _ _ _ => rfl) (tried_scr (fun q i hq => (f2 q i hq).trans (e3 q i hq)))
    · simp (disch := omega) only [gInb_t, gLt_t, gLt_f, gEq_t, gEq_f, gIx_nat, gIx_id, gIf, cond_true, cond_false, gCi_some, gCv_some, gCr_some, gB01_0, gB01_1, gBi_01, gU_same, gU_off, gW_id, Int.toNat_natCast, Int.toNat_add, Int.toNat_mul, Int.reduceToNat, Nat.add_zero, Int.add_zero, bI_eq0, bI_B, Bool.not_true, Bool.not_false, bI_t, bI_f]
      exact l1
    · simp (disch := omega) only [gInb_t, gLt_t, gLt_f, gEq_t, gEq_f, gIx_nat, gIx_id, gIf, cond_true, cond_false, gCi_some, gCv_some, gCr_some, gB01_0, gB01_1, gBi_01, gU_same, gU_off, gW_id, Int.toNat_natCast, Int.toNat_add, Int.toNat_mul, Int.reduceToNat, Nat.add_zero, Int.add_zero, bI_eq0, bI_B, Bool.not_true, Bool.not_false, bI_t, bI_f]
      exact f1
  · rw [decide_eq_false h0] at c1 c2
    refine kPair_ro (-2) hI (c1.trans ?_) (c2.trans ?_)
    · simp (disch := omega) only [gInb_t, gLt_t, gLt_f, gEq_t, gEq_f, gIx_nat, gIx_id, gIf, cond_true, cond_false, gCi_some, gCv_some, gCr_some, gB01_0, gB01_1, gBi_01, gU_same, gU_off, gW_id, Int.toNat_natCast, Int.toNat_add, Int.toNat_mul, Int.reduceToNat, Nat.add_zero, Int.add_zero, bI_eq0, bI_B, Bool.not_true, Bool.not_false, bI_t, bI_f]
    · simp (disch := omega) only [gInb_t, gLt_t, gLt_f, gEq_t, gEq_f, gIx_nat, gIx_id, gIf, cond_true, cond_false, gCi_some, gCv_some, gCr_some, gB01_0, gB01_1, gBi_01, gU_same, gU_off, gW_id, Int.toNat_natCast, Int.toNat_add, Int.toNat_mul, Int.reduceToNat, Nat.add_zero, Int.add_zero, bI_eq0, bI_B, Bool.not_true, Bool.not_false, bI_t, bI_f]
theorem l_xwrong (C : gCl) (c : Nat) (A B : Nat → Nat) (f : Nat → Bool) (M : gM) (hc : c ≤ 12) (h14 : M 14 0 = (c : Int)) (hA : ∀ j, j < c → M 15 j = ((A j : Nat) : Int) ∧ M 16 j = ((B j : Nat) : Int)) (hC : ∀ j, j < c → C 28 [.inr (.inr 7), .inl ((A j : Nat) : Int), .inl ((B j : Nat) : Int), .inl 0] M = some (M, some (.inl (bI (f j))))) : ∀ (r j z a : Nat), j + r = c → r < z → L_X9_wrong_4 C z (a : Int) (j : Int) M = some (M, some (.inl ((a + cB (fun k => !(f k)) j r : Nat) : Int))) := by
  intro r
  induction r with
  | zero =>
    intro j z a hj hz
    obtain ⟨z, rfl⟩ : ∃ y, z = y + 1 := ⟨z - 1, by omega⟩
    rw [q_X9_wrong_4, h14]
    simp (disch := omega) only [gInb_t, gLt_t, gLt_f, gEq_t, gEq_f, gIx_nat, gIx_id, gIf, cond_true, cond_false, gCi_some, gCv_some, gCr_some, gB01_0, gB01_1, gBi_01, gU_same, gU_off, gW_id, Int.toNat_natCast, Int.toNat_add, Int.toNat_mul, Int.reduceToNat, Nat.add_zero, Int.add_zero, cB]
  | succ r ih =>
    intro j z a hj hz
    obtain ⟨z, rfl⟩ : ∃ y, z = y + 1 := ⟨z - 1, by omega⟩
    obtain ⟨a1, a2⟩ := hA j (by omega)
    rw [q_X9_wrong_4, h14, gIx_e (x := (j : Int)) (n := j) rfl (by omega), a1, a2, hC j (by omega), cast_1 j, cast_1 a]
    simp only [ih (j + 1) z _ (by omega) (by omega), gCi_some, bI_eq0, cB]
    simp (disch := omega) only [gInb_t, gLt_t, gLt_f, gEq_t, gEq_f, gIx_nat, gIx_id, gIf, cond_true, cond_false, gCi_some, gCv_some, gCr_some, gB01_0, gB01_1, gBi_01, gU_same, gU_off, gW_id, Int.toNat_natCast, Int.toNat_add, Int.toNat_mul, Int.reduceToNat, Nat.add_zero, Int.add_zero]
    cases f j <;> simp [Nat.add_assoc]
theorem l_mwrong (C : gCl) (c : Nat) (A B : Nat → Nat) (f : Nat → Bool) (M : gM) (hc : c ≤ 12) (h37 : M 82 37 = (c : Int)) (hA : ∀ j, j < c → M 82 (38 + 2 * j) = ((A j : Nat) : Int) ∧ M 82 (39 + 2 * j) = ((B j : Nat) : Int)) (hC : ∀ j, j < c → C 125 [.inr (.inr 82), .inl 0, .inl ((A j : Nat) : Int), .inl ((B j : Nat) : Int)] M = some (M, some (.inl (bI (f j))))) : ∀ (r j z a : Nat), j + r = c → r < z → L_X10_wrong_4 C z (a : Int) (j : Int) M = some (M, some (.inl ((a + cB (fun k => !(f k)) j r : Nat) : Int))) := by
  intro r
  have hx : gIx 37 = 37 := gIx_e (n := 37) rfl (by omega)
  induction r with
  | zero =>
    intro j z a hj hz
    obtain ⟨z, rfl⟩ : ∃ y, z = y + 1 := ⟨z - 1, by omega⟩
    rw [q_X10_wrong_4, hx, h37]
    simp (disch := omega) only [gInb_t, gLt_t, gLt_f, gEq_t, gEq_f, gIx_nat, gIx_id, gIf, cond_true, cond_false, gCi_some, gCv_some, gCr_some, gB01_0, gB01_1, gBi_01, gU_same, gU_off, gW_id, Int.toNat_natCast, Int.toNat_add, Int.toNat_mul, Int.reduceToNat, Nat.add_zero, Int.add_zero, cB]
  | succ r ih =>
    intro j z a hj hz
    obtain ⟨z, rfl⟩ : ∃ y, z = y + 1 := ⟨z - 1, by omega⟩
    obtain ⟨a1, a2⟩ := hA j (by omega)
    rw [q_X10_wrong_4, hx, h37, gIx_e (x := 38 + 2 * (j : Int)) (n := 38 + 2 * j) (by omega) (by omega), gIx_e (x := (38 + 2 * (j : Int)) + 1) (n := 39 + 2 * j) (by omega) (by omega), a1, a2, hC j (by omega), cast_1 j, cast_1 a]
    simp only [ih (j + 1) z _ (by omega) (by omega), gCi_some, bI_eq0, cB, Int.add_zero]
    simp (disch := omega) only [gInb_t, gLt_t, gLt_f, gEq_t, gEq_f, gIx_nat, gIx_id, gIf, cond_true, cond_false, gCi_some, gCv_some, gCr_some, gB01_0, gB01_1, gBi_01, gU_same, gU_off, gW_id, Int.toNat_natCast, Int.toNat_add, Int.toNat_mul, Int.reduceToNat, Nat.add_zero, Int.add_zero]
    cases f j <;> simp [Nat.add_assoc]
theorem p_wrong (N d : Nat) (M : gM) (hN : 100000 ≤ N) (hI : kInv M) : kPair N (d + 20) 71 144 [] M := by
  obtain ⟨n, K, t, F, G, c, A, B, c', A', B', l, s, h⟩ := id hI
  obtain ⟨hP, hW, hT, hQ, hQ', hX, hU, hKp, hS, hD, hw, hz⟩ := id h
  have hn := hP.1
  have h6 := hP.2.1
  have m29 := hP.2.2.1
  have hKx := iPpl_kx hP
  have hKm := iPpl_km hP
  obtain ⟨hOk, hG8, hH0⟩ := id hW
  obtain ⟨q1, q2, q3, q4⟩ := id hQ
  have l1 := l_xwrong (gEv N (d + 19)) c A B (fun k => ahB K F 0 (A k) (B k)) M q1 q2 (fun j hj => ⟨(q4 j hj).2.2.2.1, (q4 j hj).2.2.2.2.1⟩) (fun j hj => s_xahead0 N (d + 15) (A j) (B j) n K t F M (by omega) hn (q4 j hj).1 (q4 j hj).2.1 hKx hOk hG8) c 0 N 0 (by omega) (by omega)
  have l2 := l_mwrong (gEv N (d + 19)) c A B (fun k => ahB K F 0 (A k) (B k)) M q1 q3 (fun j hj => ⟨by have := (q4 j hj).2.2.2.2.2.1; rw [Nat.zero_add] at this; exact this, by have := (q4 j hj).2.2.2.2.2.2; rw [Nat.zero_add] at this; exact this⟩) (fun j hj => s_mahead0 N (d + 15) (A j) (B j) n K t F M (by omega) hn (q4 j hj).1 (q4 j hj).2.1 hKm hOk hH0) c 0 N 0 (by omega) (by omega)
  exact kPair_ro _ hI ((q_X9_wrong N (d + 19) M).trans l1) ((q_X10_wrong N (d + 19) M).trans l2)
