-- 82: clauses; the class's reading of one
def rdW (tx : Nat → Nat) (l : Nat) : Nat → Nat → Bool × Nat × List Nat
  | 0, s => (true, s, [])
  | r + 1, s => if s < l ∧ srt (tx s) = 1 then (match vlO tx l s with
      | some v => if 1 ≤ v then ((rdW tx l r (nS tx l (nE tx l s))).1, (rdW tx l r (nS tx l (nE tx l s))).2.1, v :: (rdW tx l r (nS tx l (nE tx l s))).2.2) else (false, s, [])
      | none => (false, s, [])) else (true, s, [])
/-- a clause at s: whether it can stand, where the next token begins or the fault is, people and pairs behind it, its word and numbers -/
def rdC (tx : Nat → Nat) (l s pe pa : Nat) : Bool × Nat × Nat × Nat × Nat × List Nat :=
  if wdI tx l s = -1 then (false, s, pe, pa, 0, [])
  else if wdI tx l s = 5 then (true, nS tx l (nE tx l s), 0, 0, 5, [])
  else if wdI tx l s = 6 then (if 12 ≤ pa then (false, s, pe, pa, 6, []) else (match vlO tx l (nS tx l (nE tx l s)) with
    | some a => if a < pe then (match vlO tx l (nS tx l (nE tx l (nS tx l (nE tx l s)))) with
      | some b => if b < pe ∧ b ≠ a then (true, nS tx l (nE tx l (nS tx l (nE tx l (nS tx l (nE tx l s))))), pe, pa + 1, 6, [a, b]) else (false, nS tx l (nE tx l (nS tx l (nE tx l s))), pe, pa, 6, [])
      | none => (false, nS tx l (nE tx l (nS tx l (nE tx l s))), pe, pa, 6, [])) else (false, nS tx l (nE tx l s), pe, pa, 6, [])
    | none => (false, nS tx l (nE tx l s), pe, pa, 6, [])))
  else (if 7 ≤ pe then (false, s, pe, pa, 0, []) else ((rdW tx l 3 (nS tx l (nE tx l s))).1, (rdW tx l 3 (nS tx l (nE tx l s))).2.1, pe + 1, pa, (wdI tx l s).toNat, (rdW tx l 3 (nS tx l (nE tx l s))).2.2))
theorem fB_cases (f : Nat → Bool) : ∀ (r k : Nat), fB f k r = -1 ∨ ∃ j, k ≤ j ∧ j < k + r ∧ fB f k r = (j : Int)
  | 0, k => Or.inl rfl
  | r + 1, k => by
    simp only [fB]
    cases f k with
    | true => exact Or.inr ⟨k, by omega, by omega, rfl⟩
    | false =>
      rcases fB_cases f r (k + 1) with h | ⟨j, h1, h2, h3⟩
      · exact Or.inl h
      · exact Or.inr ⟨j, by omega, by omega, h3⟩
theorem wdI_cases (tx : Nat → Nat) (l s : Nat) : wdI tx l s = -1 ∨ ∃ j, j < 7 ∧ wdI tx l s = ((j : Nat) : Int) := by
  rcases fB_cases (fun j => isWB tx l s (gStr j)) 7 0 with h | ⟨j, h1, h2, h3⟩
  · exact Or.inl h
  · exact Or.inr ⟨j, by omega, h3⟩
theorem rdW_le (tx : Nat → Nat) (l : Nat) : ∀ (r s : Nat), s ≤ l → (rdW tx l r s).2.1 ≤ l ∧ (rdW tx l r s).2.2.length ≤ r ∧ ∀ v, v ∈ (rdW tx l r s).2.2 → 1 ≤ v ∧ v ≤ 99
  | 0, s, h => by simp [rdW, h]
  | r + 1, s, h => by
    have hE := nE_le (tx := tx) h
    have hS := nS_le (tx := tx) hE.2.1
    have ih := rdW_le tx l r (nS tx l (nE tx l s)) hS.2
    simp only [rdW]
    split
    · cases hv : vlO tx l s with
      | none => simp [h]
      | some v =>
        simp only
        by_cases h1 : 1 ≤ v
        · rw [if_pos h1]
          refine ⟨ih.1, by simp only [List.length_cons]; omega, fun w hw => ?_⟩
          rcases List.mem_cons.mp hw with rfl | hw
          · exact ⟨h1, vlO_bd hv⟩
          · exact ih.2.2 w hw
        · rw [if_neg h1]
          simp [h]
    · simp [h]
def clF (k : Nat) (M M' : gM) : Prop := ∀ q i, ¬ ((q = 1 ∧ 6 ≤ i ∧ i ≤ 10) ∨ ((q = 3 ∨ q = 4) ∧ i = k) ∨ (q = 5 ∧ 3 * k ≤ i ∧ i < 3 * k + 3)) → M' q i = M q i
theorem txtX_fr {M M' : gM} {tx : Nat → Nat} {l : Nat} (h : txtX M tx l) (e : ∀ q i, (q = 1 ∧ i = 1) ∨ (q = 2 ∧ i < 200) → M' q i = M q i) : txtX M' tx l := by
  obtain ⟨t1, t2, t3⟩ := h
  exact ⟨t1, (e _ _ (by omega)).trans t2, fun j hj => ⟨(e _ _ (by omega)).trans (t3 j hj).1, (t3 j hj).2⟩⟩
theorem s_add (N d k m : Nat) (v : Int) (M : gM) (hk : k < 20) (hm : M 4 k = (m : Int)) (hm3 : m < 3) : gEv N (d + 1) 44 [.inr (.inr 2), .inl (k : Int), .inl v] M = some (gU (gU M 5 (3 * k + m) v) 4 k ((m + 1 : Nat) : Int), none) := by
  rw [q_X7_addNumber, gIx_e (x := (k : Int)) (n := k) rfl (by omega), hm, gIx_e (x := (k : Int) * 3 + (m : Int)) (n := 3 * k + m) (by omega) (by omega), gU_off _ _ (show ¬ (4 = 5 ∧ k = 3 * k + m) by omega), hm, cast_1 m]
  simp (disch := omega) only [gInb_t, gLt_t, gLt_f, gEq_t, gEq_f, gIx_nat, gIx_id, gIf, cond_true, cond_false, gCi_some, gCv_some, gCr_some, gB01_0, gB01_1, gBi_01, gU_same, gU_off, gW_id, Int.toNat_natCast, Int.toNat_add, Int.toNat_mul, Int.reduceToNat, Nat.add_zero, Int.add_zero]
theorem vlI_in (tx : Nat → Nat) (l s : Nat) (lo hi : Int) : (∃ v, vlO tx l s = some v ∧ vlI tx l s = ((v : Nat) : Int)) ∨ (vlO tx l s = none ∧ vlI tx l s = -1) := by
  unfold vlI
  cases h : vlO tx l s with
  | some v => exact Or.inl ⟨v, rfl, rfl⟩
  | none => exact Or.inr ⟨rfl, rfl⟩
theorem vlI_rng (tx : Nat → Nat) (l s : Nat) : rng (vlI tx l s) := by
  rcases vlI_in tx l s 0 0 with ⟨v, h1, h2⟩ | ⟨h1, h2⟩
  · rw [h2]
    have := vlO_bd h1
    exact (rng_c (by omega) (by omega))
  · rw [h2]; exact (rng_c (by omega) (by omega))
theorem l_one15 (N d : Nat) (tx : Nat → Nat) (l k pe : Nat) (hN : 2000 ≤ N) (hk : k < 20) : ∀ (r m s z : Nat) (M : gM), m + r = 3 → r < z → s ≤ l → txtX M tx l → tokX M tx l s → M 1 6 = (pe : Int) → M 4 k = (m : Int) → ∃ M', L_X7_readOne_15 (gEv N (d + 2)) z (k : Int) M = some (M', some (.inl (bI (rdW tx l r s).1))) ∧ M' 1 8 = (((rdW tx l r s).2.1 : Nat) : Int) ∧ ((rdW tx l r s).1 = true → tokX M' tx l (rdW tx l r s).2.1 ∧ M' 1 6 = ((pe + 1 : Nat) : Int) ∧ M' 4 k = ((m + (rdW tx l r s).2.2.length : Nat) : Int) ∧ ∀ i, i < (rdW tx l r s).2.2.length → M' 5 (3 * k + m + i) = (((rdW tx l r s).2.2.getD i 0 : Nat) : Int)) ∧ (∀ i, i < m → M' 5 (3 * k + i) = M 5 (3 * k + i)) ∧ M' 1 7 = M 1 7 ∧ M' 3 k = M 3 k ∧ clF k M M' := by
  have ik := gIx_e (x := (k : Int)) (n := k) rfl (by omega)
  intro r
  induction r with
  | zero =>
    intro m s z M hm hz hs hT hK h6 h4
    obtain ⟨z, rfl⟩ : ∃ y, z = y + 1 := ⟨z - 1, by omega⟩
    obtain ⟨k8, k9, k10⟩ := id hK
    have e := q_X7_readOne_15 (gEv N (d + 2)) z (k : Int) M
    rw [ik, h4, gLt_f (by omega) (by omega) (by omega), cond_false, h6, cast_1 pe, gB01_1, gIf_t, gInb_t (by omega) (by omega) (by omega), gIf_t] at e
    refine ⟨gU M 1 6 ((pe + 1 : Nat) : Int), e, ?_, fun _ => ⟨⟨?_, ?_, ?_⟩, gU_same _ _ _ _, ?_, fun i hi => absurd hi (Nat.not_lt_zero i)⟩, fun i hi => gU_off _ _ (by omega), gU_off _ _ (by omega), gU_off _ _ (by omega), fun q i hq => gU_off _ _ (by omega)⟩
    · exact (gU_off _ _ (by omega)).trans k8
    · exact (gU_off _ _ (by omega)).trans k8
    · exact (gU_off _ _ (by omega)).trans k9
    · exact (gU_off _ _ (by omega)).trans k10
    · exact (gU_off _ _ (by omega)).trans h4
  | succ r ih =>
    intro m s z M hm hz hs hT hK h6 h4
    obtain ⟨z, rfl⟩ : ∃ y, z = y + 1 := ⟨z - 1, by omega⟩
    obtain ⟨k8, k9, k10⟩ := id hK
    have hE := nE_le (tx := tx) hs
    have hS := nS_le (tx := tx) hE.2.1
    have hq := srt_lt (tx s)
    have e := q_X7_readOne_15 (gEv N (d + 2)) z (k : Int) M
    rw [ik, h4, gLt_t (by omega) (by omega) (by omega), cond_true, k10, gInb_t (by omega) (by omega) (by omega), gIf_t] at e
    simp only [rdW]
    by_cases hd : s < l ∧ srt (tx s) = 1
    · have ets : tSort tx l s = 1 := by unfold tSort; rw [if_pos hd.1]; exact hd.2
      rw [ets, gEq_t (by omega), cond_true, s_number N (d + 1) tx l s M (by omega) hT hs hK, gCi_some, s_xin N (d + 1) _ 1 99 M (vlI_rng tx l s) (rng_c (by omega) (by omega)) (rng_c (by omega) (by omega)), gCi_some, bI_eq0] at e
      rw [if_pos hd]
      have hfail : ∀ b : Bool, b = false → gEv N 0 0 [] M = gEv N 0 0 [] M := fun _ _ => rfl
      rcases vlI_in tx l s 0 0 with ⟨v, hv, hvI⟩ | ⟨hv, hvI⟩
      · have hvb := vlO_bd hv
        rw [hv]
        simp only
        rw [hvI] at e
        by_cases h1 : 1 ≤ v
        · rw [if_pos h1]
          rw [decide_eq_true (show (1 : Int) ≤ (v : Int) ∧ (v : Int) ≤ 99 by omega), Bool.not_true, cond_false, s_add N (d + 1) k m (v : Int) M hk h4 (by omega), gCv_some] at e
          have f1 : ∀ q i, ¬ ((q = 4 ∧ i = k) ∨ (q = 5 ∧ i = 3 * k + m)) → gU (gU M 5 (3 * k + m) (v : Int)) 4 k ((m + 1 : Nat) : Int) q i = M q i := fun q i hq => by rw [gU_off _ _ (by omega), gU_off _ _ (by omega)]
          have w4 : gU (gU M 5 (3 * k + m) (v : Int)) 4 k ((m + 1 : Nat) : Int) 4 k = ((m + 1 : Nat) : Int) := gU_same _ _ _ _
          have w5 : gU (gU M 5 (3 * k + m) (v : Int)) 4 k ((m + 1 : Nat) : Int) 5 (3 * k + m) = (v : Int) := by rw [gU_off _ _ (by omega), gU_same]
          generalize gU (gU M 5 (3 * k + m) (v : Int)) 4 k ((m + 1 : Nat) : Int) = M1 at e f1 w4 w5
          obtain ⟨M2, g1, g2, g3⟩ := s_goOn N d tx l (nE tx l s) M1 hN (txtX_fr hT (fun q i hq => f1 q i (by omega))) hE.2.1 ((f1 _ _ (by omega)).trans k9)
          obtain ⟨M3, j1, j2, j3, j4, j5, j7, j6⟩ := ih (m + 1) (nS tx l (nE tx l s)) z M2 (by omega) (by omega) hS.2 (txtX_fr hT (fun q i hq => (g3 q i (by omega)).trans (f1 q i (by omega)))) g2 ((g3 _ _ (by omega)).trans ((f1 _ _ (by omega)).trans h6)) ((g3 _ _ (by omega)).trans w4)
          rw [g1, gCv_some] at e
          refine ⟨M3, e.trans j1, j2, fun ht => ?_, fun i hi => ?_, ?_, ?_, fun q i hq => ?_⟩
          · obtain ⟨x1, x2, x3, x4⟩ := j3 ht
            refine ⟨x1, x2, ?_, fun i hi => ?_⟩
            · rw [x3]
              simp only [List.length_cons]
              congr 1
              omega
            · match i with
              | 0 =>
                rw [Nat.add_zero, j4 m (by omega), g3 _ _ (by omega), w5]
                rfl
              | i + 1 =>
                simp only [List.length_cons] at hi
                rw [show 3 * k + m + (i + 1) = 3 * k + (m + 1) + i by omega, x4 i (by omega)]
                rfl
          · rw [j4 i (by omega), g3 _ _ (by omega), f1 _ _ (by omega)]
          · rw [j5, g3 _ _ (by omega), f1 _ _ (by omega)]
          · rw [j7, g3 _ _ (by omega), f1 _ _ (by omega)]
          · rw [j6 q i hq, g3 q i (by omega), f1 q i (by omega)]
        · rw [if_neg h1]
          rw [decide_eq_false (show ¬ ((1 : Int) ≤ (v : Int) ∧ (v : Int) ≤ 99) by omega), Bool.not_false, cond_true, gB01_0, gIf_t] at e
          exact ⟨M, e, k8, fun h => (by cases h), fun _ _ => rfl, rfl, rfl, fun _ _ _ => rfl⟩
      · rw [hv]
        rw [hvI, decide_eq_false (show ¬ ((1 : Int) ≤ -1 ∧ (-1 : Int) ≤ 99) by omega), Bool.not_false, cond_true, gB01_0, gIf_t] at e
        exact ⟨M, e, k8, fun h => (by cases h), fun _ _ => rfl, rfl, rfl, fun _ _ _ => rfl⟩
    · have ets : gEq ((tSort tx l s : Nat) : Int) 1 = false := by
        unfold tSort
        split
        · rename_i hsl
          have : srt (tx s) ≠ 1 := fun q => hd ⟨hsl, q⟩
          exact gEq_f (by omega) (by omega) (by omega) (by omega) (by omega)
        · exact gEq_f (by omega) (by omega) (by omega) (by omega) (by omega)
      rw [ets, cond_false, h6, cast_1 pe, gB01_1, gIf_t] at e
      rw [if_neg hd]
      refine ⟨gU M 1 6 ((pe + 1 : Nat) : Int), e, ?_, fun _ => ⟨⟨?_, ?_, ?_⟩, gU_same _ _ _ _, ?_, fun i hi => absurd hi (Nat.not_lt_zero i)⟩, fun i hi => gU_off _ _ (by omega), gU_off _ _ (by omega), gU_off _ _ (by omega), fun q i hq => gU_off _ _ (by omega)⟩
      · exact (gU_off _ _ (by omega)).trans k8
      · exact (gU_off _ _ (by omega)).trans k8
      · exact (gU_off _ _ (by omega)).trans k9
      · exact (gU_off _ _ (by omega)).trans k10
      · exact (gU_off _ _ (by omega)).trans h4
theorem s_xclause (N d : Nat) (tx : Nat → Nat) (l s k pe pa : Nat) (M : gM) (hN : 2000 ≤ N) (hk : k < 20) (hs : s ≤ l) (hT : txtX M tx l) (hK : tokX M tx l s) (hpe : pe ≤ 7) (hpa : pa ≤ 12) (h6 : M 1 6 = (pe : Int)) (h7 : M 1 7 = (pa : Int)) : ∃ M', gEv N (d + 10) 40 [.inr (.inr 2), .inl (k : Int)] M = some (M', some (.inl (bI (rdC tx l s pe pa).1))) ∧ M' 1 8 = (((rdC tx l s pe pa).2.1 : Nat) : Int) ∧ ((rdC tx l s pe pa).1 = true → tokX M' tx l (rdC tx l s pe pa).2.1 ∧ M' 1 6 = (((rdC tx l s pe pa).2.2.1 : Nat) : Int) ∧ M' 1 7 = (((rdC tx l s pe pa).2.2.2.1 : Nat) : Int) ∧ M' 3 k = (((rdC tx l s pe pa).2.2.2.2.1 : Nat) : Int) ∧ M' 4 k = (((rdC tx l s pe pa).2.2.2.2.2.length : Nat) : Int) ∧ ∀ i, i < (rdC tx l s pe pa).2.2.2.2.2.length → M' 5 (3 * k + i) = (((rdC tx l s pe pa).2.2.2.2.2.getD i 0 : Nat) : Int)) ∧ clF k M M' := by
  have ik := gIx_e (x := (k : Int)) (n := k) rfl (by omega)
  obtain ⟨k8, k9, k10⟩ := id hK
  have hE := nE_le (tx := tx) hs
  have hS := nS_le (tx := tx) hE.2.1
  have hE1 := nE_le (tx := tx) hS.2
  have hS1 := nS_le (tx := tx) hE1.2.1
  have hE2 := nE_le (tx := tx) hS1.2
  have hS2 := nS_le (tx := tx) hE2.2.1
  have e := q_X7_readClause N (d + 9) (k : Int) M
  rw [s_word N d tx l s M (by omega) hT hs hK, gCi_some, ik, gInb_t (by omega) (by omega) (by omega), gIf_t, gIf_t] at e
  have f1 : ∀ q i, ¬ ((q = 3 ∨ q = 4) ∧ i = k) → gU (gU M 3 k (wdI tx l s)) 4 k 0 q i = M q i := fun q i hq => by rw [gU_off _ _ (by omega), gU_off _ _ (by omega)]
  have w3 : gU (gU M 3 k (wdI tx l s)) 4 k 0 3 k = wdI tx l s := by rw [gU_off _ _ (by omega), gU_same]
  have w4 : gU (gU M 3 k (wdI tx l s)) 4 k 0 4 k = 0 := gU_same _ _ _ _
  generalize gU (gU M 3 k (wdI tx l s)) 4 k 0 = M1 at e f1 w3 w4
  have hT1 : txtX M1 tx l := txtX_fr hT (fun q i hq => f1 q i (by omega))
  have cF : ∀ M2, (∀ q i, ¬ ((q = 1 ∧ 6 ≤ i ∧ i ≤ 10) ∨ (q = 4 ∧ i = k) ∨ (q = 5 ∧ 3 * k ≤ i ∧ i < 3 * k + 3)) → M2 q i = M1 q i) → clF k M M2 := fun M2 h q i hq => (h q i (by omega)).trans (f1 q i (by omega))
  unfold rdC
  rcases wdI_cases tx l s with hw | ⟨j, hj, hw⟩
  · rw [hw, gEq_refl, cond_true, gB01_0, gIf_t] at e
    rw [if_pos hw]
    exact ⟨M1, e, (f1 _ _ (by omega)).trans k8, fun h => (by cases h), cF M1 (fun _ _ _ => rfl)⟩
  · rw [hw, gEq_f (by omega) (by omega) (by omega) (by omega) (by omega), cond_false] at e
    rw [if_neg (by rw [hw]; omega)]
    by_cases h5 : j = 5
    · subst h5
      rw [gEq_t (by omega), cond_true] at e
      have q0 := q_X7_readHouse N (d + 8) M1
      have f2 : ∀ q i, ¬ (q = 1 ∧ 6 ≤ i ∧ i ≤ 7) → gU (gU M1 1 6 0) 1 7 0 q i = M1 q i := fun q i hq => by rw [gU_off _ _ (by omega), gU_off _ _ (by omega)]
      obtain ⟨M2, g1, g2, g3⟩ := s_goOn N (d + 6) tx l (nE tx l s) (gU (gU M1 1 6 0) 1 7 0) hN (txtX_fr hT1 (fun q i hq => f2 q i (by omega))) hE.2.1 ((f2 _ _ (by omega)).trans ((f1 _ _ (by omega)).trans k9))
      rw [g1, gCv_some, gB01_1, gIf_t] at q0
      rw [q0, gCi_some, gB01_1, gIf_t] at e
      rw [if_pos (show wdI tx l s = 5 from hw)]
      refine ⟨M2, e, g2.1, fun _ => ⟨g2, ?_, ?_, ?_, ?_, fun i hi => absurd hi (Nat.not_lt_zero i)⟩, cF M2 (fun q i hq => (g3 q i (by omega)).trans (f2 q i (by omega)))⟩
      · rw [g3 _ _ (by omega), gU_off _ _ (by omega), gU_same]; rfl
      · rw [g3 _ _ (by omega), gU_same]; rfl
      · rw [g3 _ _ (by omega), f2 _ _ (by omega), w3, hw]
      · rw [g3 _ _ (by omega), f2 _ _ (by omega), w4]; rfl
    · rw [gEq_f (by omega) (by omega) (by omega) (by omega) (by omega), cond_false] at e
      rw [if_neg (by rw [hw]; omega)]
      by_cases h6' : j = 6
      · subst h6'
        rw [gEq_t (by omega), cond_true] at e
        rw [if_pos (show wdI tx l s = 6 from hw)]
        have q0 := q_X7_readTwo N (d + 8) (k : Int) M1
        rw [f1 1 7 (by omega), h7] at q0
        by_cases hpa2 : 12 ≤ pa
        · rw [if_pos hpa2]
          rw [gLt_f (by omega) (by omega) (by omega), cond_false, gB01_0, gIf_t] at q0
          rw [q0, gCi_some, gB01_0, gIf_t] at e
          exact ⟨M1, e, (f1 _ _ (by omega)).trans k8, fun h => (by cases h), cF M1 (fun _ _ _ => rfl)⟩
        · rw [if_neg hpa2]
          obtain ⟨M2, g1, g2, g3⟩ := s_goOn N (d + 6) tx l (nE tx l s) M1 hN hT1 hE.2.1 ((f1 _ _ (by omega)).trans k9)
          have hT2 : txtX M2 tx l := txtX_fr hT1 (fun q i hq => g3 q i (by omega))
          have m6 : M2 1 6 = (pe : Int) := (g3 _ _ (by omega)).trans ((f1 _ _ (by omega)).trans h6)
          rw [gLt_t (by omega) (by omega) (by omega), cond_true, g1, gCv_some, s_number N (d + 7) tx l _ M2 (by omega) hT2 hS.2 g2, gCi_some, m6, s_xin N (d + 7) _ 0 ((pe : Int) - 1) M2 (vlI_rng _ _ _) (rng_c (by omega) (by omega)) (rng_c (by omega) (by omega)), gCi_some, bI_eq0] at q0
          rcases vlI_in tx l (nS tx l (nE tx l s)) 0 0 with ⟨a, hv, hvI⟩ | ⟨hv, hvI⟩
          · rw [hv]
            simp only
            rw [hvI] at q0
            have hab := vlO_bd hv
            by_cases ha : a < pe
            · rw [if_pos ha]
              rw [decide_eq_true (show (0 : Int) ≤ (a : Int) ∧ (a : Int) ≤ (pe : Int) - 1 by omega), Bool.not_true, cond_false, s_add N (d + 7) k 0 (a : Int) M2 hk ((g3 _ _ (by omega)).trans w4) (by omega), gCv_some] at q0
              have f3 : ∀ q i, ¬ ((q = 4 ∧ i = k) ∨ (q = 5 ∧ i = 3 * k)) → gU (gU M2 5 (3 * k + 0) (a : Int)) 4 k ((0 + 1 : Nat) : Int) q i = M2 q i := fun q i hq => by rw [gU_off _ _ (by omega), gU_off _ _ (by omega)]
              have v4 : gU (gU M2 5 (3 * k + 0) (a : Int)) 4 k ((0 + 1 : Nat) : Int) 4 k = ((1 : Nat) : Int) := gU_same _ _ _ _
              have v5 : gU (gU M2 5 (3 * k + 0) (a : Int)) 4 k ((0 + 1 : Nat) : Int) 5 (3 * k) = (a : Int) := by rw [gU_off _ _ (by omega), Nat.add_zero, gU_same]
              generalize gU (gU M2 5 (3 * k + 0) (a : Int)) 4 k ((0 + 1 : Nat) : Int) = M3 at q0 f3 v4 v5
              obtain ⟨M4, j1, j2, j3⟩ := s_goOn N (d + 6) tx l (nE tx l (nS tx l (nE tx l s))) M3 hN (txtX_fr hT2 (fun q i hq => f3 q i (by omega))) hE1.2.1 ((f3 _ _ (by omega)).trans g2.2.1)
              have hT4 : txtX M4 tx l := txtX_fr hT2 (fun q i hq => (j3 q i (by omega)).trans (f3 q i (by omega)))
              have n6 : M4 1 6 = (pe : Int) := (j3 _ _ (by omega)).trans ((f3 _ _ (by omega)).trans m6)
              rw [j1, gCv_some, s_number N (d + 7) tx l _ M4 (by omega) hT4 hS1.2 j2, gCi_some, n6, s_xin N (d + 7) _ 0 ((pe : Int) - 1) M4 (vlI_rng _ _ _) (rng_c (by omega) (by omega)) (rng_c (by omega) (by omega)), gCi_some, bI_eq0] at q0
              have frA : ∀ q i, ¬ ((q = 1 ∧ 8 ≤ i ∧ i ≤ 10) ∨ (q = 4 ∧ i = k) ∨ (q = 5 ∧ i = 3 * k)) → M4 q i = M1 q i := fun q i hq => (j3 q i (by omega)).trans ((f3 q i (by omega)).trans (g3 q i (by omega)))
              rcases vlI_in tx l (nS tx l (nE tx l (nS tx l (nE tx l s)))) 0 0 with ⟨b, hv2, hvI2⟩ | ⟨hv2, hvI2⟩
              · rw [hv2]
                simp only
                rw [hvI2] at q0
                have hbb := vlO_bd hv2
                by_cases hb : b < pe
                · rw [decide_eq_true (show (0 : Int) ≤ (b : Int) ∧ (b : Int) ≤ (pe : Int) - 1 by omega), Bool.not_true, cond_false] at q0
                  by_cases hne : b = a
                  · rw [if_neg (fun w => w.2 hne)]
                    rw [gEq_t (by omega), cond_true, gB01_0, gIf_t] at q0
                    rw [q0, gCi_some, gB01_0, gIf_t] at e
                    exact ⟨M4, e, j2.1, fun h => (by cases h), cF M4 (fun q i hq => frA q i (by omega))⟩
                  · rw [if_pos ⟨hb, hne⟩]
                    rw [gEq_f (by omega) (by omega) (by omega) (by omega) (by omega), cond_false, s_add N (d + 7) k 1 (b : Int) M4 hk ((j3 _ _ (by omega)).trans v4) (by omega), gCv_some] at q0
                    have f5 : ∀ q i, ¬ ((q = 4 ∧ i = k) ∨ (q = 5 ∧ i = 3 * k + 1)) → gU (gU M4 5 (3 * k + 1) (b : Int)) 4 k ((1 + 1 : Nat) : Int) q i = M4 q i := fun q i hq => by rw [gU_off _ _ (by omega), gU_off _ _ (by omega)]
                    have u4 : gU (gU M4 5 (3 * k + 1) (b : Int)) 4 k ((1 + 1 : Nat) : Int) 4 k = ((2 : Nat) : Int) := gU_same _ _ _ _
                    have u5 : gU (gU M4 5 (3 * k + 1) (b : Int)) 4 k ((1 + 1 : Nat) : Int) 5 (3 * k + 1) = (b : Int) := by rw [gU_off _ _ (by omega), gU_same]
                    generalize gU (gU M4 5 (3 * k + 1) (b : Int)) 4 k ((1 + 1 : Nat) : Int) = M5 at q0 f5 u4 u5
                    obtain ⟨M6, p1, p2, p3⟩ := s_goOn N (d + 6) tx l (nE tx l (nS tx l (nE tx l (nS tx l (nE tx l s))))) M5 hN (txtX_fr hT4 (fun q i hq => f5 q i (by omega))) hE2.2.1 ((f5 _ _ (by omega)).trans j2.2.1)
                    have n7 : M6 1 7 = (pa : Int) := (p3 _ _ (by omega)).trans ((f5 _ _ (by omega)).trans ((frA _ _ (by omega)).trans ((f1 _ _ (by omega)).trans h7)))
                    rw [p1, gCv_some, n7, cast_1 pa, gB01_1, gIf_t] at q0
                    rw [q0, gCi_some, gB01_1, gIf_t] at e
                    have f7 : ∀ q i, ¬ (q = 1 ∧ i = 7) → gU M6 1 7 ((pa + 1 : Nat) : Int) q i = M6 q i := fun q i hq => gU_off _ _ hq
                    refine ⟨gU M6 1 7 ((pa + 1 : Nat) : Int), e, (f7 _ _ (by omega)).trans p2.1, fun _ => ⟨⟨(f7 _ _ (by omega)).trans p2.1, (f7 _ _ (by omega)).trans p2.2.1, (f7 _ _ (by omega)).trans p2.2.2⟩, ?_, gU_same _ _ _ _, ?_, ?_, fun i hi => ?_⟩, cF _ (fun q i hq => (f7 q i (by omega)).trans ((p3 q i (by omega)).trans ((f5 q i (by omega)).trans (frA q i (by omega)))))⟩
                    · rw [f7 _ _ (by omega), p3 _ _ (by omega), f5 _ _ (by omega)]; exact n6
                    · rw [f7 _ _ (by omega), p3 _ _ (by omega), f5 _ _ (by omega), frA _ _ (by omega), w3, hw]
                    · rw [f7 _ _ (by omega), p3 _ _ (by omega), u4]; rfl
                    · match i with
                      | 0 =>
                        rw [f7 _ _ (by omega), p3 _ _ (by omega), f5 _ _ (by omega), j3 _ _ (by omega), Nat.add_zero, v5]
                        rfl
                      | 1 =>
                        rw [f7 _ _ (by omega), p3 _ _ (by omega), u5]
                        rfl
                      | i + 2 => simp at hi; omega
                · rw [if_neg (fun w => hb w.1)]
                  rw [decide_eq_false (show ¬ ((0 : Int) ≤ (b : Int) ∧ (b : Int) ≤ (pe : Int) - 1) by omega), Bool.not_false, cond_true, gB01_0, gIf_t] at q0
                  rw [q0, gCi_some, gB01_0, gIf_t] at e
                  exact ⟨M4, e, j2.1, fun h => (by cases h), cF M4 (fun q i hq => frA q i (by omega))⟩
              · rw [hv2]
                rw [hvI2, decide_eq_false (show ¬ ((0 : Int) ≤ -1 ∧ (-1 : Int) ≤ (pe : Int) - 1) by omega), Bool.not_false, cond_true, gB01_0, gIf_t] at q0
                rw [q0, gCi_some, gB01_0, gIf_t] at e
                exact ⟨M4, e, j2.1, fun h => (by cases h), cF M4 (fun q i hq => frA q i (by omega))⟩
            · rw [if_neg ha]
              rw [decide_eq_false (show ¬ ((0 : Int) ≤ (a : Int) ∧ (a : Int) ≤ (pe : Int) - 1) by omega), Bool.not_false, cond_true, gB01_0, gIf_t] at q0
              rw [q0, gCi_some, gB01_0, gIf_t] at e
              exact ⟨M2, e, g2.1, fun h => (by cases h), cF M2 (fun q i hq => g3 q i (by omega))⟩
          · rw [hv]
            rw [hvI, decide_eq_false (show ¬ ((0 : Int) ≤ -1 ∧ (-1 : Int) ≤ (pe : Int) - 1) by omega), Bool.not_false, cond_true, gB01_0, gIf_t] at q0
            rw [q0, gCi_some, gB01_0, gIf_t] at e
            exact ⟨M2, e, g2.1, fun h => (by cases h), cF M2 (fun q i hq => g3 q i (by omega))⟩
      · rw [gEq_f (by omega) (by omega) (by omega) (by omega) (by omega), cond_false] at e
        rw [if_neg (by rw [hw]; omega)]
        have q0 := q_X7_readOne N (d + 8) (k : Int) M1
        rw [f1 1 6 (by omega), h6] at q0
        by_cases hpe2 : 7 ≤ pe
        · rw [if_pos hpe2]
          rw [gLt_f (by omega) (by omega) (by omega), cond_false, gB01_0, gIf_t] at q0
          rw [q0, gCi_some, gB01_0, gIf_t] at e
          exact ⟨M1, e, (f1 _ _ (by omega)).trans k8, fun h => (by cases h), cF M1 (fun _ _ _ => rfl)⟩
        · rw [if_neg hpe2]
          obtain ⟨M2, g1, g2, g3⟩ := s_goOn N (d + 6) tx l (nE tx l s) M1 hN hT1 hE.2.1 ((f1 _ _ (by omega)).trans k9)
          rw [gLt_t (by omega) (by omega) (by omega), cond_true, g1, gCv_some] at q0
          obtain ⟨M3, j1, j2, j3, j4, j5, j7, j6⟩ := l_one15 N (d + 6) tx l k pe hN hk 3 0 (nS tx l (nE tx l s)) N M2 (by omega) (by omega) hS.2 (txtX_fr hT1 (fun q i hq => g3 q i (by omega))) g2 ((g3 _ _ (by omega)).trans ((f1 _ _ (by omega)).trans h6)) ((g3 _ _ (by omega)).trans w4)
          rw [q0.trans j1, gCi_some, bI_B, gIf_t] at e
          refine ⟨M3, e, j2, fun ht => ?_, fun q i hq => ?_⟩
          · obtain ⟨x1, x2, x3, x4⟩ := j3 ht
            refine ⟨x1, x2, ?_, ?_, ?_, fun i hi => ?_⟩
            · rw [j5, g3 _ _ (by omega), f1 _ _ (by omega)]; exact h7
            · rw [j7, g3 _ _ (by omega), w3, hw]
              rfl
            · rw [x3, Nat.zero_add]
            · have := x4 i hi
              rw [Nat.add_zero] at this
              exact this
          · exact (j6 q i hq).trans ((g3 q i (by omega)).trans (f1 q i (by omega)))
