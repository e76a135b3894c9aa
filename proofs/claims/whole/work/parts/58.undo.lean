-- 58: what can be undone
def uX (M : gM) (n u lt : Nat) (T : Nat → Int) (G : Nat → Nat → List Int) : Prop := M 20 0 = (u : Int) ∧ M 20 1 = (lt : Int) ∧ ∀ j, j < u → kG M n (22 + 3 * ((lt + 8 - j) % 8)) (T j) (G j)
def uM (M : gM) (n u : Nat) (T : Nat → Int) (G : Nat → Nat → List Int) : Prop := M 81 1 = (u : Int) ∧ ∀ j, j < u → kH M n (124 + 29 * (u - 1 - j)) (T j) (G j)
def uOk (n u lt : Nat) (T : Nat → Int) (G : Nat → Nat → List Int) : Prop := u ≤ 8 ∧ lt < 8 ∧ ∀ j, j < u → kOk n (T j) (G j)
theorem iUnd_of {M : gM} {n u lt : Nat} {T : Nat → Int} {G : Nat → Nat → List Int} (h1 : uOk n u lt T G) (h2 : uX M n u lt T G) (h3 : uM M n u T G) : iUnd M n := ⟨u, lt, T, G, h1.1, h1.2.1, h2.1, h2.2.1, h3.1, fun j hj => ⟨h1.2.2 j hj, h2.2.2 j hj, h3.2 j hj⟩⟩
theorem iUnd_to {M : gM} {n : Nat} (h : iUnd M n) : ∃ u lt T G, uOk n u lt T G ∧ uX M n u lt T G ∧ uM M n u T G := by
  obtain ⟨u, lt, T, G, h1, h2, h3, h4, h5, h6⟩ := h
  exact ⟨u, lt, T, G, ⟨h1, h2, fun j hj => (h6 j hj).1⟩, ⟨h3, h4, fun j hj => (h6 j hj).2.1⟩, ⟨h5, fun j hj => (h6 j hj).2.2⟩⟩
theorem uX_fr {M M' : gM} {n u lt : Nat} {T : Nat → Int} {G : Nat → Nat → List Int} (h : uX M n u lt T G) (hk : uOk n u lt T G) (hn : n ≤ 7) (e : ∀ q i, (q = 20 ∧ i < 2) ∨ (22 ≤ q ∧ q < 46) → M' q i = M q i) : uX M' n u lt T G :=
  ⟨(e _ _ (by omega)).trans h.1, (e _ _ (by omega)).trans h.2.1, fun j hj => kG_fr (h.2.2 j hj) (hk.2.2 j hj).2.2 hn (fun q i hq => e q i (by omega))⟩
theorem uM_fr {M M' : gM} {n u lt : Nat} {T : Nat → Int} {G : Nat → Nat → List Int} (h : uM M n u T G) (hk : uOk n u lt T G) (hn : n ≤ 7) (e : ∀ q i, (q = 81 ∧ i = 1) ∨ (q = 82 ∧ 124 ≤ i ∧ i < 356) → M' q i = M q i) : uM M' n u T G :=
  ⟨(e _ _ (by omega)).trans h.1, fun j hj => kH_fr (h.2 j hj) (hk.2.2 j hj).2.2 hn (fun i h1 h2 => e 82 i (by have := hk.1; omega))⟩
/-- one more ahead of a row -/
def uCons {α : Type} (x : α) (f : Nat → α) : Nat → α := fun j => if j = 0 then x else f (j - 1)
theorem uOk_push {n u lt : Nat} {T : Nat → Int} {G : Nat → Nat → List Int} {t : Int} {F : Nat → List Int} (h : uOk n u lt T G) (hF : kOk n t F) : uOk n (if u = 8 then 8 else u + 1) ((lt + 1) % 8) (uCons t T) (uCons F G) := by
  obtain ⟨h1, h2, h3⟩ := h
  refine ⟨by split <;> omega, by omega, fun j hj => ?_⟩
  unfold uCons
  by_cases hz : j = 0
  · simp only [if_pos hz]; exact hF
  · simp only [if_neg hz]
    refine h3 (j - 1) ?_
    split at hj <;> omega
theorem s_xrem (N d n u lt : Nat) (T : Nat → Int) (G : Nat → Nat → List Int) (t : Int) (F : Nat → List Int) (M : gM) (hn : n ≤ 7) (hk : uOk n u lt T G) (hF : kOk n t F) (hX : uX M n u lt T G) (hG : kG M n 8 t F) : ∃ M', gEv N (d + 2) 51 [.inr (.inr 21), .inr (.inr 9)] M = some (M', none) ∧ uX M' n (if u = 8 then 8 else u + 1) ((lt + 1) % 8) (uCons t T) (uCons F G) ∧ ∀ q i, ¬ (q = 20 ∨ (22 ≤ q ∧ q < 46)) → M' q i = M q i := by
  obtain ⟨h1, h2, h3⟩ := id hk
  have hp := kPlj (j := (lt + 1) % 8) (by omega)
  have hG1 : kG (gU M 20 1 (((lt + 1) % 8 : Nat) : Int)) n 8 t F := kG_fr hG hF.2.2 hn (fun q i hq => by simp (disch := omega) only [gU_same, gU_off])
  refine ⟨_, s_remember N d lt u M h2 h1 hX.2.1 hX.1, ⟨by simp (disch := omega) only [gU_same, gU_off], ?_, fun j hj => ?_⟩, fun q i hq => ?_⟩
  · rw [gU_off _ _ (by omega), kBec_fr _ _ (by omega), gU_same]
  · by_cases hz : j = 0
    · subst hz
      have e : 22 + 3 * (((lt + 1) % 8 + 8 - 0) % 8) = 22 + 3 * ((lt + 1) % 8) := by omega
      rw [e]
      simp only [uCons, if_true]
      have hb := kBec_G hp kPl8 (by omega) hn hF.2.2 hG1
      exact kG_fr hb hF.2.2 hn (fun q i hq => by simp (disch := omega) only [gU_same, gU_off])
    · have hj2 : j - 1 < u := by split at hj <;> omega
      have hj3 : j < 8 := by split at hj <;> omega
      have e : 22 + 3 * (((lt + 1) % 8 + 8 - j) % 8) = 22 + 3 * ((lt + 8 - (j - 1)) % 8) := by omega
      rw [e]
      simp only [uCons, if_neg hz]
      refine kG_fr (hX.2.2 (j - 1) hj2) (h3 _ hj2).2.2 hn (fun q i hq => ?_)
      rw [gU_off _ _ (by omega), kBec_fr _ _ (by omega), gU_off _ _ (by omega)]
  · rw [gU_off _ _ (by omega), kBec_fr _ _ (by omega), gU_off _ _ (by omega)]
theorem l_keepPast (C : gCl) (M : gM) (R : Option gR) (hC : gCv (C 114 [.inr (.inr 82), .inl 0, .inl (124 + 29 * (gU (gCp M 82 153 82 124 203) 81 1 (gCp M 82 153 82 124 203 81 1 - 1) 81 1)), .inl 29] (gU (gCp M 82 153 82 124 203) 81 1 (gCp M 82 153 82 124 203 81 1 - 1))) (fun M1 => some (gU M1 81 1 (M1 81 1 + 1), none)) = R) : ∀ (r k z : Nat), k + r = 203 → r < z → L_X10_keepPast_11 C z (k : Int) (gCp M 82 153 82 124 k) = R := by
  intro r
  induction r with
  | zero =>
    intro k z hk hz
    obtain ⟨z, rfl⟩ : ∃ y, z = y + 1 := ⟨z - 1, by omega⟩
    have : k = 203 := by omega
    subst this
    rw [q_X10_keepPast_11, gLt_f (by omega) (by omega) (by omega), cond_false]
    exact hC
  | succ r ih =>
    intro k z hk hz
    obtain ⟨z, rfl⟩ : ∃ y, z = y + 1 := ⟨z - 1, by omega⟩
    rw [q_X10_keepPast_11, gIx_e (x := 153 + (k : Int)) (n := 153 + k) (by omega) (by omega), gIx_e (x := 124 + (k : Int)) (n := 124 + k) (by omega) (by omega), gCp_step M 82 153 124 k (by omega), cast_1 k, ih (k + 1) z (by omega) (by omega)]
    simp (disch := omega) only [gInb_t, gLt_t, gLt_f, gEq_t, gEq_f, gIx_nat, gIx_id, gIf, cond_true, cond_false, gCi_some, gCv_some, gCr_some, gB01_0, gB01_1, gBi_01, gU_same, gU_off, gW_id, Int.toNat_natCast, Int.toNat_add, Int.toNat_mul, Int.reduceToNat, Nat.add_zero, Int.add_zero]
theorem s_mrem (N d n u lt : Nat) (T : Nat → Int) (G : Nat → Nat → List Int) (t : Int) (F : Nat → List Int) (M : gM) (hN : 1000 ≤ N) (hn : n ≤ 7) (hk : uOk n u lt T G) (hF : kOk n t F) (hX : uM M n u T G) (hG : kH M n 0 t F) : ∃ M', gEv N (d + 2) 133 [.inr (.inr 82)] M = some (M', none) ∧ uM M' n (if u = 8 then 8 else u + 1) (uCons t T) (uCons F G) ∧ ∀ q i, ¬ ((q = 81 ∧ i = 1) ∨ (q = 82 ∧ 124 ≤ i ∧ i < 356)) → M' q i = M q i := by
  obtain ⟨h1, h2, h3⟩ := id hk
  obtain ⟨x1, x2⟩ := id hX
  by_cases h8 : u = 8
  · subst h8
    have ev : gCp M 82 153 82 124 203 81 1 - 1 = 7 := by rw [gCp_off (by omega), x1]; rfl
    have ec : gEv N (d + 1) 114 [.inr (.inr 82), .inl 0, .inl (124 + 29 * 7), .inl 29] (gU (gCp M 82 153 82 124 203) 81 1 7) = some (gCp (gU (gCp M 82 153 82 124 203) 81 1 7) 82 0 82 327 29, none) := s_copyRow N d 0 327 29 _ (by omega) (by omega) (by omega) (by omega)
    have l1 := l_keepPast (gEv N (d + 1)) M (some (gU (gCp (gU (gCp M 82 153 82 124 203) 81 1 7) 82 0 82 327 29) 81 1 8, none)) (by
      rw [ev, gU_same, ec, gCv_some, gCp_off (by omega), gU_same]
      rfl) 203 0 N (by omega) (by omega)
    rw [gCp_zero] at l1
    refine ⟨gU (gCp (gU (gCp M 82 153 82 124 203) 81 1 7) 82 0 82 327 29) 81 1 8, ?_, ⟨by rw [gU_same]; rfl, fun j hj => ?_⟩, fun q i hq => ?_⟩
    · rw [q_X10_keepPast, x1, gEq_t (by omega), cond_true]
      exact l1
    · by_cases hz : j = 0
      · subst hz
        simp only [uCons, if_true]
        have hb : kH (gU (gCp M 82 153 82 124 203) 81 1 7) n 0 t F := kH_fr hG hF.2.2 hn (fun i h1 h2 => by rw [gU_off _ _ (by omega), gCp_off (by omega)])
        exact kH_fr (kCp_row (b := 327) hb hF.2.2 hn 29 (by omega)) hF.2.2 hn (fun i h1 h2 => by simp (disch := omega) only [gU_same, gU_off])
      · simp only [uCons, if_neg hz, if_true] at hj ⊢
        have hh := x2 (j - 1) (by omega)
        have e1 : 124 + 29 * (8 - 1 - (j - 1)) = 153 + 29 * (7 - j) := by omega
        rw [e1] at hh
        have hok := (h3 (j - 1) (by omega)).2.2
        refine ⟨?_, fun p hp => ⟨?_, fun i hi => ?_⟩⟩
        · rw [gU_off _ _ (by omega), gCp_off (by omega), gU_off _ _ (by omega), gCp_in rfl (by omega) (by omega), ← hh.1]
          exact congrArg (M 82) (by omega)
        · rw [gU_off _ _ (by omega), gCp_off (by omega), gU_off _ _ (by omega), gCp_in rfl (by omega) (by omega), ← (hh.2 p hp).1]
          exact congrArg (M 82) (by omega)
        · have := (hok p hp).1
          rw [gU_off _ _ (by omega), gCp_off (by omega), gU_off _ _ (by omega), gCp_in rfl (by omega) (by omega), ← (hh.2 p hp).2 i hi]
          exact congrArg (M 82) (by omega)
    · rw [gU_off _ _ (by omega), gCp_off (by omega), gU_off _ _ (by omega), gCp_off (by omega)]
  · have ec : gEv N (d + 1) 114 [.inr (.inr 82), .inl 0, .inl ((124 + 29 * u : Nat) : Int), .inl 29] M = some (gCp M 82 0 82 (124 + 29 * u) 29, none) := s_copyRow N d 0 (124 + 29 * u) 29 M (by omega) (by omega) (by omega) (by omega)
    refine ⟨gU (gCp M 82 0 82 (124 + 29 * u) 29) 81 1 ((u : Int) + 1), ?_, ⟨?_, fun j hj => ?_⟩, fun q i hq => ?_⟩
    · rw [q_X10_keepPast, x1, show (124 : Int) + 29 * (u : Int) = ((124 + 29 * u : Nat) : Int) by omega, ec, gCv_some, gCp_off (by omega), x1]
      simp (disch := omega) only [gInb_t, gLt_t, gLt_f, gEq_t, gEq_f, gIx_nat, gIx_id, gIf, cond_true, cond_false, gCi_some, gCv_some, gCr_some, gB01_0, gB01_1, gBi_01, gU_same, gU_off, gW_id, Int.toNat_natCast, Int.toNat_add, Int.toNat_mul, Int.reduceToNat, Nat.add_zero, Int.add_zero]
    · rw [gU_same, if_neg h8]; rfl
    · simp only [if_neg h8] at hj ⊢
      by_cases hz : j = 0
      · subst hz
        simp only [uCons, if_true]
        have e1 : 124 + 29 * (u + 1 - 1 - 0) = 124 + 29 * u := by omega
        rw [e1]
        exact kH_fr (kCp_row (b := 124 + 29 * u) hG hF.2.2 hn 29 (by omega)) hF.2.2 hn (fun i h1 h2 => by simp (disch := omega) only [gU_same, gU_off])
      · simp only [uCons, if_neg hz]
        have e1 : 124 + 29 * (u + 1 - 1 - j) = 124 + 29 * (u - 1 - (j - 1)) := by omega
        rw [e1]
        refine kH_fr (x2 (j - 1) (by omega)) (h3 (j - 1) (by omega)).2.2 hn (fun i h1 h2 => ?_)
        rw [gU_off _ _ (by omega), gCp_off (by omega)]
    · rw [gU_off _ _ (by omega), gCp_off (by omega)]
/-- the class's lents -/
theorem l_xpass (N d n : Nat) (K : Nat → Nat) (t : Int) (F : Nat → List Int) (c : Nat) (hN : 10 ≤ N) (hn : n ≤ 7) (hc : c ≤ 12) (hF : ∀ p, p < n → kOkL (F p)) : ∀ (r k z : Nat) (M : gM), k + r = n → r < z → kKx M n K → kG M n 8 t (fun p => if p < k then kFd K F c p else F p) →
    ∃ M', L_X5_passLents_2 (gEv N (d + 2)) z (c : Int) (k : Int) M = some (M', none) ∧ kG M' n 8 (t + (c : Int)) (kFd K F c) ∧ ∀ q i, ¬ (8 ≤ q ∧ q ≤ 10) → M' q i = M q i := by
  intro r
  induction r with
  | zero =>
    intro k z M hk hz hK hG
    obtain ⟨z, rfl⟩ : ∃ y, z = y + 1 := ⟨z - 1, by omega⟩
    have : k = n := by omega
    subst this
    rw [q_X5_passLents_2, hK.1, hG.1]
    refine ⟨gU M 8 0 (t + (c : Int)), by simp (disch := omega) only [gInb_t, gLt_t, gLt_f, gEq_t, gEq_f, gIx_nat, gIx_id, gIf, cond_true, cond_false, gCi_some, gCv_some, gCr_some, gB01_0, gB01_1, gBi_01, gU_same, gU_off, gW_id, Int.toNat_natCast, Int.toNat_add, Int.toNat_mul, Int.reduceToNat, Nat.add_zero, Int.add_zero], ⟨gU_same _ _ _ _, fun p hp => ?_⟩, fun q i hq => by simp (disch := omega) only [gU_same, gU_off]⟩
    have := hG.2 p hp
    simp only [if_pos hp] at this
    refine ⟨by simp (disch := omega) only [gU_same, gU_off]; exact this.1, fun j hj => ?_⟩
    simp (disch := omega) only [gU_same, gU_off]
    exact this.2 j hj
  | succ r ih =>
    intro k z M hk hz hK hG
    obtain ⟨z, rfl⟩ : ∃ y, z = y + 1 := ⟨z - 1, by omega⟩
    have hkn : k < n := by omega
    obtain ⟨k5, k7⟩ := hK.2 k hkn
    have h6 := fadesN_le (K k) k5
    have hcf : c * fadesN (K k) ≤ 12 * 6 := Nat.mul_le_mul hc h6
    have hGk := hG.2 k hkn
    simp only [Nat.lt_irrefl, if_false] at hGk
    have hfk := hF k hkn
    obtain ⟨M1, e1, e2, e3, e4⟩ := s_xfade N d 8 k ((c * fadesN (K k) : Nat) : Int) (F k) M (by omega) kPl8 (by omega) (by omega) hfk hGk.1 hGk.2
    have hK1 : kKx M1 n K := ⟨by rw [e4 _ _ (by omega)]; exact hK.1, fun p hp => ⟨(hK.2 p hp).1, by rw [e4 _ _ (by omega)]; exact (hK.2 p hp).2⟩⟩
    have hG1 : kG M1 n 8 t (fun p => if p < k + 1 then kFd K F c p else F p) := by
      refine ⟨by rw [e4 _ _ (by omega)]; exact hG.1, fun p hp => ?_⟩
      by_cases hpk : p = k
      · subst hpk
        simp only [show p < p + 1 by omega, if_true]
        exact ⟨e2, e3⟩
      · have hi : (p < k + 1) = (p < k) := by simp only [eq_iff_iff]; omega
        simp only [hi]
        refine ⟨by rw [e4 _ _ (by omega)]; exact (hG.2 p hp).1, fun j hj => ?_⟩
        have h3 : (if p < k then kFd K F c p else F p).length ≤ 3 := by
          have := (hF p hp).1
          have h2 := (kFd_ok (K := K) (c := c) hF p hp).1
          split <;> omega
        rw [e4 _ _ (by omega)]; exact (hG.2 p hp).2 j hj
    obtain ⟨M2, f1, f2, f3⟩ := ih (k + 1) z M1 (by omega) (by omega) hK1 hG1
    refine ⟨M2, ?_, f2, fun q i hq => (f3 q i hq).trans (e4 q i (by omega))⟩
    rw [q_X5_passLents_2, hK.1, gIx_e (x := (k : Int)) (n := k) rfl (by omega), k7, gIx_e (x := ((K k : Nat) : Int)) (n := K k) rfl (by omega), fadeTab k5, ← Int.natCast_mul, e1, gCv_some, cast_1 k, f1]
    simp (disch := omega) only [gInb_t, gLt_t, gLt_f, gEq_t, gEq_f, gIx_nat, gIx_id, gIf, cond_true, cond_false, gCi_some, gCv_some, gCr_some, gB01_0, gB01_1, gBi_01, gU_same, gU_off, gW_id, Int.toNat_natCast, Int.toNat_add, Int.toNat_mul, Int.reduceToNat, Nat.add_zero, Int.add_zero]
theorem l_mpass (N d n : Nat) (K : Nat → Nat) (t : Int) (F : Nat → List Int) (c : Nat) (hN : 10 ≤ N) (hn : n ≤ 7) (hc : c ≤ 12) (hF : ∀ p, p < n → kOkL (F p)) : ∀ (r k z : Nat) (M : gM), k + r = c → r < z → kKm M n K → kH M n 0 (t + (k : Int)) (kFd K F k) →
    ∃ M', L_X10_lent_39 (gEv N (d + 2)) z (c : Int) (k : Int) M = some (M', some (.inl (t + (c : Int)))) ∧ kH M' n 0 (t + (c : Int)) (kFd K F c) ∧ (∀ q i, ¬ (q = 82 ∧ i < 29) → M' q i = M q i) := by
  intro r
  induction r with
  | zero =>
    intro k z M hk hz hK hH
    obtain ⟨z, rfl⟩ : ∃ y, z = y + 1 := ⟨z - 1, by omega⟩
    have : k = c := by omega
    subst this
    have e28 : M 82 28 = t + (k : Int) := hH.1
    rw [q_X10_lent_39, gIx_e (x := 28) (n := 28) rfl (by omega), e28]
    exact ⟨M, by simp (disch := omega) only [gInb_t, gLt_t, gLt_f, gEq_t, gEq_f, gIx_nat, gIx_id, gIf, cond_true, cond_false, gCi_some, gCv_some, gCr_some, gB01_0, gB01_1, gBi_01, gU_same, gU_off, gW_id, Int.toNat_natCast, Int.toNat_add, Int.toNat_mul, Int.reduceToNat, Nat.add_zero, Int.add_zero], hH, fun _ _ _ => rfl⟩
  | succ r ih =>
    intro k z M hk hz hK hH
    obtain ⟨z, rfl⟩ : ∃ y, z = y + 1 := ⟨z - 1, by omega⟩
    obtain ⟨M1, e1, e2, e3⟩ := s_passes N d 0 n K (t + (k : Int)) (kFd K F k) M (by omega) (by omega) (by omega) hn (kFd_ok hF) hK hH
    rw [kFd_pass] at e2
    obtain ⟨M2, f1, f2, f3⟩ := ih (k + 1) z M1 (by omega) (by omega) (kKm_fr hK hn (fun i h1 h2 => e3 _ _ (by omega))) (kH_ext e2 (by omega) (fun _ _ => rfl))
    refine ⟨M2, ?_, f2, fun q i hq => (f3 q i hq).trans (e3 q i (by omega))⟩
    have e1' : gEv N (d + 2) 124 [.inr (.inr 82), .inl 0] M = some (M1, none) := e1
    rw [q_X10_lent_39, e1', gCv_some, cast_1 k, f1]
    simp (disch := omega) only [gInb_t, gLt_t, gLt_f, gEq_t, gEq_f, gIx_nat, gIx_id, gIf, cond_true, cond_false, gCi_some, gCv_some, gCr_some, gB01_0, gB01_1, gBi_01, gU_same, gU_off, gW_id, Int.toNat_natCast, Int.toNat_add, Int.toNat_mul, Int.reduceToNat, Nat.add_zero, Int.add_zero]
theorem kFd0 {K : Nat → Nat} {F : Nat → List Int} {n : Nat} (h : ∀ p, p < n → kOkL (F p)) : ∀ p, p < n → F p = kFd K F 0 p := fun p hp => (kFd_zero (h p hp)).symm
theorem p_lent (N d : Nat) (a : Int) (M : gM) (hN : 100000 ≤ N) (hI : kInv M) (ha : rng a) : kPair N (d + 20) 62 134 [.inl a] M := by
  obtain ⟨n, K, t, F, G, c, A, B, c', A', B', l, s, h⟩ := id hI
  obtain ⟨hP, hW, hT, hQ, hQ', hX, hU, hKp, hS, hD, hw, hz⟩ := id h
  have hn := hP.1
  have h6 := hP.2.1
  have m29 := hP.2.2.1
  have hKx := iPpl_kx hP
  have hKm := iPpl_km hP
  obtain ⟨hOk, hG8, hH0⟩ := id hW
  have t28 : M 82 28 = t := hH0.1
  have i28 := gIx_e (x := 28) (n := 28) rfl (by omega)
  have c1 := q_X9_lent N (d + 19) a M
  rw [s_xin N _ a 1 12 M ha (rng_c (by omega) (by omega)) (rng_c (by omega) (by omega)), gCi_some, hG8.1] at c1
  by_cases h0 : 1 ≤ a ∧ a ≤ 12
  · rw [decide_eq_true h0] at c1
    obtain ⟨k, rfl⟩ : ∃ k : Nat, a = (k : Int) := ⟨a.toNat, by omega⟩
    obtain ⟨o1, o2, o3⟩ := id hOk
    by_cases h1 : t + (k : Int) ≤ 999
    · obtain ⟨u, lt, T, G', u1, u2, u3⟩ := iUnd_to hU
      obtain ⟨Ma, a1, a2, a3⟩ := s_xrem N (d + 17) n u lt T G' t F M hn u1 hOk u2 hG8
      have hGa : kG Ma n 8 t (fun p => if p < 0 then kFd K F k p else F p) := kG_ext (kG_fr hG8 o3 hn (fun q i hq => a3 q i (by omega))) rfl (fun p hp => by simp)
      obtain ⟨Mb, b1, b2, b3⟩ := l_xpass N (d + 16) n K t F k (by omega) hn (by omega) o3 n 0 N Ma (by omega) (by omega) ⟨by rw [a3 _ _ (by omega)]; exact hKx.1, fun p hp => ⟨(hKx.2 p hp).1, by rw [a3 _ _ (by omega)]; exact (hKx.2 p hp).2⟩⟩ hGa
      have b1' : gEv N (d + 19) 26 [.inr (.inr 7), .inl (k : Int)] Ma = some (Mb, none) := (q_X5_passLents N (d + 18) _ Ma).trans b1
      have e1 : gEv N (d + 20) 62 [.inr (.inr 1), .inl (k : Int)] M = some (Mb, some (.inl (t + (k : Int)))) := by
        refine c1.trans ?_
        rw [a1, gCv_some, b1', gCv_some, b2.1]
        simp (disch := omega) only [gInb_t, gLt_t, gLt_f, gEq_t, gEq_f, gIx_nat, gIx_id, gIf, cond_true, cond_false, gCi_some, gCv_some, gCr_some, gB01_0, gB01_1, gBi_01, gU_same, gU_off, gW_id, Int.toNat_natCast, Int.toNat_add, Int.toNat_mul, Int.reduceToNat, Nat.add_zero, Int.add_zero, bI_eq0, bI_B, Bool.not_true, Bool.not_false, bI_t, bI_f]
      have fb : ∀ q i, ¬ ((8 ≤ q ∧ q ≤ 10) ∨ (20 ≤ q ∧ q < 46)) → Mb q i = M q i := fun q i hq => (b3 q i (by omega)).trans (a3 q i (by omega))
      have hXb : uX Mb n _ _ _ _ := uX_fr a2 (uOk_push u1 hOk) hn (fun q i hq => b3 q i (by omega))
      have hMb : uM Mb n u T G' := uM_fr u3 u1 hn (fun q i hq => fb q i (by omega))
      have hHb : kH Mb n 0 t F := kH_fr hH0 o3 hn (fun i h1 h2 => fb _ _ (by omega))
      obtain ⟨Mc, g1, g2, g3⟩ := s_mrem N (d + 17) n u lt T G' t F Mb (by omega) hn u1 hOk hMb hHb
      have hHc : kH Mc n 0 (t + ((0 : Nat) : Int)) (kFd K F 0) := kH_ext (kH_fr hHb o3 hn (fun i h1 h2 => g3 _ _ (by omega))) (by omega) (kFd0 o3)
      obtain ⟨Md, d1, d2, d3⟩ := l_mpass N (d + 17) n K t F k (by omega) hn (by omega) o3 k 0 N Mc (by omega) (by omega) (kKm_fr hKm hn (fun i h1 h2 => (g3 _ _ (by omega)).trans (fb _ _ (by omega)))) hHc
      have c2 := q_X10_lent N (d + 19) (k : Int) Mb
      have e2 : gEv N (d + 20) 134 [.inr (.inr 82), .inl (k : Int)] Mb = some (Md, some (.inl (t + (k : Int)))) := by
        refine c2.trans ?_
        have t28b : Mb 82 28 = t := hHb.1
        rw [s_min N _ (k : Int) 1 12 (((1 : Nat) : Int)) (((12 : Nat) : Int) - ((0 : Nat) : Int)) Mb ha (rng_c (by omega) (by omega)) (rng_c (by omega) (by omega)) rfl rfl, gCi_some, decide_eq_true h0, i28, t28b, g1, gCv_some, show (0 : Int) = ((0 : Nat) : Int) from rfl, d1]
        simp (disch := omega) only [gInb_t, gLt_t, gLt_f, gEq_t, gEq_f, gIx_nat, gIx_id, gIf, cond_true, cond_false, gCi_some, gCv_some, gCr_some, gB01_0, gB01_1, gBi_01, gU_same, gU_off, gW_id, Int.toNat_natCast, Int.toNat_add, Int.toNat_mul, Int.reduceToNat, Nat.add_zero, Int.add_zero, bI_eq0, bI_B, Bool.not_true, Bool.not_false, bI_t, bI_f]
      have fd : ∀ q i, ¬ ((8 ≤ q ∧ q ≤ 10) ∨ (20 ≤ q ∧ q < 46) ∨ (q = 82 ∧ i < 29) ∨ (q = 82 ∧ 124 ≤ i ∧ i < 356) ∨ (q = 81 ∧ i = 1)) → Md q i = M q i := fun q i hq => ((d3 q i (by omega)).trans (g3 q i (by omega))).trans (fb q i (by omega))
      refine ⟨_, _, _, e1, e2, fun i => fb _ _ (by omega), fb _ _ (by omega), n, K, t + (k : Int), kFd K F k, G, c, A, B, c', A', B', l, s, kI_now ⟨⟨by omega, h1, kFd_ok o3⟩, kG_fr b2 (kFd_ok o3) hn (fun q i hq => (d3 q i (by omega)).trans (g3 q i (by omega))), d2⟩ (iUnd_of (uOk_push u1 hOk) (uX_fr hXb (uOk_push u1 hOk) hn (fun q i hq => (d3 q i (by omega)).trans (g3 q i (by omega)))) (uM_fr g2 (uOk_push u1 hOk) hn (fun q i hq => d3 q i (by omega)))) h (fun q i hq => fd q i (by omega))⟩
    · have c2 := q_X10_lent N (d + 19) (k : Int) M
      rw [s_min N _ (k : Int) 1 12 (((1 : Nat) : Int)) (((12 : Nat) : Int) - ((0 : Nat) : Int)) M ha (rng_c (by omega) (by omega)) (rng_c (by omega) (by omega)) rfl rfl, gCi_some, decide_eq_true h0, i28, t28] at c2
      refine kPair_ro (-5) hI (c1.trans ?_) (c2.trans ?_)
      · simp (disch := omega) only [gInb_t, gLt_t, gLt_f, gEq_t, gEq_f, gIx_nat, gIx_id, gIf, cond_true, cond_false, gCi_some, gCv_some, gCr_some, gB01_0, gB01_1, gBi_01, gU_same, gU_off, gW_id, Int.toNat_natCast, Int.toNat_add, Int.toNat_mul, Int.reduceToNat, Nat.add_zero, Int.add_zero, bI_eq0, bI_B, Bool.not_true, Bool.not_false, bI_t, bI_f]
      · simp (disch := omega) only [gInb_t, gLt_t, gLt_f, gEq_t, gEq_f, gIx_nat, gIx_id, gIf, cond_true, cond_false, gCi_some, gCv_some, gCr_some, gB01_0, gB01_1, gBi_01, gU_same, gU_off, gW_id, Int.toNat_natCast, Int.toNat_add, Int.toNat_mul, Int.reduceToNat, Nat.add_zero, Int.add_zero, bI_eq0, bI_B, Bool.not_true, Bool.not_false, bI_t, bI_f]
  · rw [decide_eq_false h0] at c1
    have c2 := q_X10_lent N (d + 19) a M
    rw [s_min N _ a 1 12 (((1 : Nat) : Int)) (((12 : Nat) : Int) - ((0 : Nat) : Int)) M ha (rng_c (by omega) (by omega)) (rng_c (by omega) (by omega)) rfl rfl, gCi_some, decide_eq_false h0] at c2
    refine kPair_ro (-3) hI (c1.trans ?_) (c2.trans ?_)
    · simp (disch := omega) only [gInb_t, gLt_t, gLt_f, gEq_t, gEq_f, gIx_nat, gIx_id, gIf, cond_true, cond_false, gCi_some, gCv_some, gCr_some, gB01_0, gB01_1, gBi_01, gU_same, gU_off, gW_id, Int.toNat_natCast, Int.toNat_add, Int.toNat_mul, Int.reduceToNat, Nat.add_zero, Int.add_zero, bI_eq0, bI_B, Bool.not_true, Bool.not_false, bI_t, bI_f]
    · simp (disch := omega) only [gInb_t, gLt_t, gLt_f, gEq_t, gEq_f, gIx_nat, gIx_id, gIf, cond_true, cond_false, gCi_some, gCv_some, gCr_some, gB01_0, gB01_1, gBi_01, gU_same, gU_off, gW_id, Int.toNat_natCast, Int.toNat_add, Int.toNat_mul, Int.reduceToNat, Nat.add_zero, Int.add_zero, bI_eq0, bI_B, Bool.not_true, Bool.not_false, bI_t, bI_f]
