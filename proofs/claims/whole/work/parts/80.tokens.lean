-- 80: tokens
def srt (c : Nat) : Nat := if 97 ≤ c ∧ c ≤ 122 then 0 else if 48 ≤ c ∧ c ≤ 57 then 1 else 2
def skB (tx : Nat → Nat) (l i : Nat) : Nat → Nat
  | 0 => i
  | r + 1 => if i < l ∧ tx i = 32 then skB tx l (i + 1) r else i
def exT (tx : Nat → Nat) (l q i : Nat) : Nat → Nat
  | 0 => i
  | r + 1 => if i < l ∧ srt (tx i) = q then exT tx l q (i + 1) r else i
/-- where the token begins that comes behind i; where it ends -/
def nS (tx : Nat → Nat) (l i : Nat) : Nat := skB tx l i (l - i)
def nE (tx : Nat → Nat) (l s : Nat) : Nat := if s < l then (if srt (tx s) = 2 then s + 1 else exT tx l (srt (tx s)) (s + 1) (l - (s + 1))) else s
def tSort (tx : Nat → Nat) (l s : Nat) : Nat := if s < l then srt (tx s) else 3
def txtX (M : gM) (tx : Nat → Nat) (l : Nat) : Prop := l ≤ 200 ∧ M 1 1 = (l : Int) ∧ ∀ j, j < l → M 2 j = ((tx j : Nat) : Int) ∧ tx j ≤ 255
def txtM (M : gM) (tx : Nat → Nat) (l : Nat) : Prop := l ≤ 200 ∧ M 81 4 = (l : Int) ∧ ∀ j, j < l → M 84 j = ((tx j : Nat) : Int) ∧ tx j ≤ 255
def tokX (M : gM) (tx : Nat → Nat) (l s : Nat) : Prop := M 1 8 = (s : Int) ∧ M 1 9 = ((nE tx l s : Nat) : Int) ∧ M 1 10 = ((tSort tx l s : Nat) : Int)
def tokM (M : gM) (tx : Nat → Nat) (l s : Nat) : Prop := M 81 12 = (s : Int) ∧ M 81 13 = ((nE tx l s : Nat) : Int)
theorem srt_lt (c : Nat) : srt c < 3 := by unfold srt; split <;> (try split) <;> omega
theorem skB_le (tx : Nat → Nat) (l : Nat) : ∀ (r i : Nat), i ≤ l → r = l - i → i ≤ skB tx l i r ∧ skB tx l i r ≤ l
  | 0, i, h, _ => ⟨Nat.le_refl i, h⟩
  | r + 1, i, h, hr => by
    simp only [skB]
    split
    · rename_i hc
      have := skB_le tx l r (i + 1) (by omega) (by omega)
      omega
    · omega
theorem exT_le (tx : Nat → Nat) (l q : Nat) : ∀ (r i : Nat), i ≤ l → r = l - i → i ≤ exT tx l q i r ∧ exT tx l q i r ≤ l
  | 0, i, h, _ => ⟨Nat.le_refl i, h⟩
  | r + 1, i, h, hr => by
    simp only [exT]
    split
    · rename_i hc
      have := exT_le tx l q r (i + 1) (by omega) (by omega)
      omega
    · omega
theorem nS_le {tx : Nat → Nat} {l i : Nat} (h : i ≤ l) : i ≤ nS tx l i ∧ nS tx l i ≤ l := skB_le tx l (l - i) i h rfl
theorem nE_le {tx : Nat → Nat} {l s : Nat} (h : s ≤ l) : s ≤ nE tx l s ∧ nE tx l s ≤ l ∧ (s < l → s < nE tx l s) := by
  unfold nE
  by_cases hs : s < l
  · rw [if_pos hs]
    by_cases h2 : srt (tx s) = 2
    · rw [if_pos h2]; omega
    · rw [if_neg h2]
      have := exT_le tx l (srt (tx s)) (l - (s + 1)) (s + 1) (by omega) rfl
      omega
  · rw [if_neg hs]; omega
theorem s_sortOf (N d c : Nat) (M : gM) (hc : c ≤ 255) : gEv N (d + 1) 46 [.inl (c : Int)] M = some (M, some (.inl ((srt c : Nat) : Int))) := by
  rw [q_X7_sortOf]
  unfold srt
  by_cases h1 : c < 97
  · rw [if_neg (by omega)]
    by_cases h2 : c < 48
    · rw [if_neg (by omega)]; simp (disch := omega) only [gInb_t, gLt_t, gLt_f, gEq_t, gEq_f, gIx_nat, gIx_id, gIf, cond_true, cond_false, gCi_some, gCv_some, gCr_some, gB01_0, gB01_1, gBi_01, gU_same, gU_off, gW_id, Int.toNat_natCast, Int.toNat_add, Int.toNat_mul, Int.reduceToNat, Nat.add_zero, Int.add_zero]; rfl
    · by_cases h3 : 57 < c
      · rw [if_neg (by omega)]; simp (disch := omega) only [gInb_t, gLt_t, gLt_f, gEq_t, gEq_f, gIx_nat, gIx_id, gIf, cond_true, cond_false, gCi_some, gCv_some, gCr_some, gB01_0, gB01_1, gBi_01, gU_same, gU_off, gW_id, Int.toNat_natCast, Int.toNat_add, Int.toNat_mul, Int.reduceToNat, Nat.add_zero, Int.add_zero]; rfl
      · rw [if_pos (by omega)]; simp (disch := omega) only [gInb_t, gLt_t, gLt_f, gEq_t, gEq_f, gIx_nat, gIx_id, gIf, cond_true, cond_false, gCi_some, gCv_some, gCr_some, gB01_0, gB01_1, gBi_01, gU_same, gU_off, gW_id, Int.toNat_natCast, Int.toNat_add, Int.toNat_mul, Int.reduceToNat, Nat.add_zero, Int.add_zero]; rfl
  · by_cases h2 : 122 < c
    · rw [if_neg (by omega), if_neg (by omega)]; simp (disch := omega) only [gInb_t, gLt_t, gLt_f, gEq_t, gEq_f, gIx_nat, gIx_id, gIf, cond_true, cond_false, gCi_some, gCv_some, gCr_some, gB01_0, gB01_1, gBi_01, gU_same, gU_off, gW_id, Int.toNat_natCast, Int.toNat_add, Int.toNat_mul, Int.reduceToNat, Nat.add_zero, Int.add_zero]; rfl
    · rw [if_pos (by omega)]; simp (disch := omega) only [gInb_t, gLt_t, gLt_f, gEq_t, gEq_f, gIx_nat, gIx_id, gIf, cond_true, cond_false, gCi_some, gCv_some, gCr_some, gB01_0, gB01_1, gBi_01, gU_same, gU_off, gW_id, Int.toNat_natCast, Int.toNat_add, Int.toNat_mul, Int.reduceToNat, Nat.add_zero, Int.add_zero]; rfl
theorem l_go97 (N d : Nat) (tx : Nat → Nat) (l q : Nat) (M0 : gM) (hT : txtX M0 tx l) (hq : q < 2) (h10 : M0 1 10 = (q : Int)) : ∀ (r i z : Nat) (M : gM), r = l - i → i ≤ l → r < z → (∀ p j, ¬ (p = 1 ∧ j = 9) → M p j = M0 p j) → M 1 9 = (i : Int) → ∃ M', L_X7_goOn_97 (gEv N (d + 1)) z M = some (M', none) ∧ M' 1 9 = ((exT tx l q i r : Nat) : Int) ∧ ∀ p j, ¬ (p = 1 ∧ j = 9) → M' p j = M0 p j := by
  obtain ⟨t1, t2, t3⟩ := hT
  intro r
  induction r with
  | zero =>
    intro i z M hr hi hz hf h9
    obtain ⟨z, rfl⟩ : ∃ y, z = y + 1 := ⟨z - 1, by omega⟩
    refine ⟨M, ?_, h9, hf⟩
    rw [q_X7_goOn_97, hf 1 10 (by omega), h10, h9, hf 1 1 (by omega), t2]
    simp (disch := omega) only [gInb_t, gLt_t, gLt_f, gEq_t, gEq_f, gIx_nat, gIx_id, gIf, cond_true, cond_false, gCi_some, gCv_some, gCr_some, gB01_0, gB01_1, gBi_01, gU_same, gU_off, gW_id, Int.toNat_natCast, Int.toNat_add, Int.toNat_mul, Int.reduceToNat, Nat.add_zero, Int.add_zero]
  | succ r ih =>
    intro i z M hr hi hz hf h9
    obtain ⟨z, rfl⟩ : ∃ y, z = y + 1 := ⟨z - 1, by omega⟩
    obtain ⟨t4, t5⟩ := t3 i (by omega)
    have hs := srt_lt (tx i)
    have e : L_X7_goOn_97 (gEv N (d + 1)) (z + 1) M = cond (gEq ((srt (tx i) : Nat) : Int) (q : Int)) (L_X7_goOn_97 (gEv N (d + 1)) z (gU M 1 9 ((i + 1 : Nat) : Int))) (some (M, none)) := by
      rw [q_X7_goOn_97, h9, hf 1 1 (by omega), t2, gIx_e (x := (i : Int)) (n := i) rfl (by omega), hf 2 i (by omega), t4, s_sortOf N d (tx i) M t5, gCi_some, hf 1 10 (by omega), h10, h9, cast_1 i]
      simp (disch := omega) only [gInb_t, gLt_t, gLt_f, gEq_t, gEq_f, gIx_nat, gIx_id, gIf, cond_true, cond_false, gCi_some, gCv_some, gCr_some, gB01_0, gB01_1, gBi_01, gU_same, gU_off, gW_id, Int.toNat_natCast, Int.toNat_add, Int.toNat_mul, Int.reduceToNat, Nat.add_zero, Int.add_zero]
    rw [e]
    simp only [exT]
    by_cases h : srt (tx i) = q
    · rw [if_pos ⟨by omega, h⟩, gEq_t (by omega), cond_true]
      obtain ⟨M', g1, g2, g3⟩ := ih (i + 1) z (gU M 1 9 ((i + 1 : Nat) : Int)) (by omega) (by omega) (by omega) (fun p j hp => (gU_off _ _ hp).trans (hf p j hp)) (gU_same _ _ _ _)
      exact ⟨M', g1, g2, g3⟩
    · rw [if_neg (fun w => h w.2), gEq_f (by omega) (by omega) (by omega) (by omega) (by omega), cond_false]
      exact ⟨M, rfl, h9, hf⟩
theorem l_go46 (N d : Nat) (tx : Nat → Nat) (l s z : Nat) (M : gM) (hT : txtX M tx l) (hs : s ≤ l) (hz : 1000 ≤ z) (h8 : M 1 8 = (s : Int)) : ∃ M', L_X7_goOn_46 (gEv N (d + 1)) z M = some (M', none) ∧ tokX M' tx l s ∧ ∀ p j, ¬ (p = 1 ∧ 8 ≤ j ∧ j ≤ 10) → M' p j = M p j := by
  obtain ⟨t1, t2, t3⟩ := id hT
  obtain ⟨z, rfl⟩ : ∃ y, z = y + 1 := ⟨z - 1, by omega⟩
  have f0 : ∀ p j, ¬ (p = 1 ∧ 9 ≤ j ∧ j ≤ 10) → gU (gU M 1 9 (M 1 8)) 1 10 3 p j = M p j := fun p j hp => by rw [gU_off _ _ (by omega), gU_off _ _ (by omega)]
  have v9 : gU (gU M 1 9 (M 1 8)) 1 10 3 1 9 = (s : Int) := by rw [gU_off _ _ (by omega), gU_same]; exact h8
  have v10 : gU (gU M 1 9 (M 1 8)) 1 10 3 1 10 = 3 := gU_same _ _ _ _
  have e0 := q_X7_goOn_46 (gEv N (d + 1)) z M
  generalize gU (gU M 1 9 (M 1 8)) 1 10 3 = M1 at e0 f0 v9 v10
  rw [f0 1 8 (by omega), f0 1 1 (by omega), h8, t2, gIx_e (x := (s : Int)) (n := s) rfl (by omega), f0 2 s (by omega)] at e0
  by_cases h : s < l
  · obtain ⟨t4, t5⟩ := t3 s h
    have hq := srt_lt (tx s)
    rw [t4, s_sortOf N d (tx s) M1 t5, gCi_some, gLt_t (by omega) (by omega) (by omega), cond_true, gInb_t (by omega) (by omega) (by omega), gIf_t, gU_off _ _ (show ¬ (1 = 1 ∧ 9 = 10) by omega), v9, cast_1 s] at e0
    have f2 : ∀ p j, ¬ (p = 1 ∧ 9 ≤ j ∧ j ≤ 10) → gU (gU M1 1 10 ((srt (tx s) : Nat) : Int)) 1 9 ((s + 1 : Nat) : Int) p j = M p j := fun p j hp => by rw [gU_off _ _ (by omega), gU_off _ _ (by omega), f0 p j hp]
    have w9 : gU (gU M1 1 10 ((srt (tx s) : Nat) : Int)) 1 9 ((s + 1 : Nat) : Int) 1 9 = ((s + 1 : Nat) : Int) := gU_same _ _ _ _
    have w10 : gU (gU M1 1 10 ((srt (tx s) : Nat) : Int)) 1 9 ((s + 1 : Nat) : Int) 1 10 = ((srt (tx s) : Nat) : Int) := by rw [gU_off _ _ (by omega), gU_same]
    generalize gU (gU M1 1 10 ((srt (tx s) : Nat) : Int)) 1 9 ((s + 1 : Nat) : Int) = M2 at e0 f2 w9 w10
    by_cases h2 : srt (tx s) = 2
    · obtain ⟨z, rfl⟩ : ∃ y, z = y + 1 := ⟨z - 1, by omega⟩
      have e1 : L_X7_goOn_97 (gEv N (d + 1)) (z + 1) M2 = some (M2, none) := by
        rw [q_X7_goOn_97, w10, h2]
        simp (disch := omega) only [gInb_t, gLt_t, gLt_f, gEq_t, gEq_f, gIx_nat, gIx_id, gIf, cond_true, cond_false, gCi_some, gCv_some, gCr_some, gB01_0, gB01_1, gBi_01, gU_same, gU_off, gW_id, Int.toNat_natCast, Int.toNat_add, Int.toNat_mul, Int.reduceToNat, Nat.add_zero, Int.add_zero]
      refine ⟨M2, e0.trans e1, ⟨(f2 _ _ (by omega)).trans h8, ?_, ?_⟩, fun p j hp => f2 p j (by omega)⟩
      · unfold nE; rw [if_pos h, if_pos h2]; exact w9
      · unfold tSort; rw [if_pos h]; exact w10
    · obtain ⟨M3, g1, g2, g3⟩ := l_go97 N d tx l (srt (tx s)) M2 ⟨t1, (f2 _ _ (by omega)).trans t2, fun j hj => ⟨(f2 _ _ (by omega)).trans (t3 j hj).1, (t3 j hj).2⟩⟩ (by omega) w10 (l - (s + 1)) (s + 1) z M2 rfl (by omega) (by omega) (fun _ _ _ => rfl) w9
      refine ⟨M3, e0.trans g1, ⟨(g3 _ _ (by omega)).trans ((f2 _ _ (by omega)).trans h8), ?_, ?_⟩, fun p j hp => (g3 p j (by omega)).trans (f2 p j (by omega))⟩
      · unfold nE; rw [if_pos h, if_neg h2]; exact g2
      · unfold tSort; rw [if_pos h]; exact (g3 _ _ (by omega)).trans w10
  · rw [gLt_f (by omega) (by omega) (by omega), cond_false] at e0
    refine ⟨M1, e0, ⟨(f0 _ _ (by omega)).trans h8, ?_, ?_⟩, fun p j hp => f0 p j (by omega)⟩
    · unfold nE; rw [if_neg h]; exact v9
    · unfold tSort; rw [if_neg h]; exact v10
theorem l_go8 (N d : Nat) (tx : Nat → Nat) (l : Nat) (M0 : gM) (hT : txtX M0 tx l) : ∀ (r i z : Nat) (M : gM), r = l - i → i ≤ l → r + 1000 < z → (∀ p j, ¬ (p = 1 ∧ j = 8) → M p j = M0 p j) → M 1 8 = (i : Int) → ∃ M', L_X7_goOn_8 (gEv N (d + 1)) z M = some (M', none) ∧ tokX M' tx l (skB tx l i r) ∧ ∀ p j, ¬ (p = 1 ∧ 8 ≤ j ∧ j ≤ 10) → M' p j = M0 p j := by
  obtain ⟨t1, t2, t3⟩ := id hT
  intro r
  induction r with
  | zero =>
    intro i z M hr hi hz hf h8
    obtain ⟨z, rfl⟩ : ∃ y, z = y + 1 := ⟨z - 1, by omega⟩
    obtain ⟨M', g1, g2, g3⟩ := l_go46 N d tx l i z M ⟨t1, (hf _ _ (by omega)).trans t2, fun j hj => ⟨(hf _ _ (by omega)).trans (t3 j hj).1, (t3 j hj).2⟩⟩ hi (by omega) h8
    refine ⟨M', ?_, g2, fun p j hp => (g3 p j hp).trans (hf p j (by omega))⟩
    rw [q_X7_goOn_8, h8, hf 1 1 (by omega), t2, gLt_f (by omega) (by omega) (by omega), cond_false]
    exact g1
  | succ r ih =>
    intro i z M hr hi hz hf h8
    obtain ⟨z, rfl⟩ : ∃ y, z = y + 1 := ⟨z - 1, by omega⟩
    obtain ⟨t4, t5⟩ := t3 i (by omega)
    have e : L_X7_goOn_8 (gEv N (d + 1)) (z + 1) M = cond (gEq ((tx i : Nat) : Int) 32) (L_X7_goOn_8 (gEv N (d + 1)) z (gU M 1 8 ((i + 1 : Nat) : Int))) (L_X7_goOn_46 (gEv N (d + 1)) z M) := by
      rw [q_X7_goOn_8, h8, hf 1 1 (by omega), t2, gIx_e (x := (i : Int)) (n := i) rfl (by omega), hf 2 i (by omega), t4, cast_1 i, gLt_t (by omega) (by omega) (by omega), cond_true, gInb_t (by omega) (by omega) (by omega), gIf_t]
    rw [e]
    simp only [skB]
    by_cases h : tx i = 32
    · rw [if_pos ⟨by omega, h⟩, gEq_t (by omega), cond_true]
      exact ih (i + 1) z (gU M 1 8 ((i + 1 : Nat) : Int)) (by omega) (by omega) (by omega) (fun p j hp => (gU_off _ _ hp).trans (hf p j hp)) (gU_same _ _ _ _)
    · rw [if_neg (fun w => h w.2), gEq_f (by omega) (by omega) (by omega) (by omega) (by omega), cond_false]
      obtain ⟨M', g1, g2, g3⟩ := l_go46 N d tx l i z M ⟨t1, (hf _ _ (by omega)).trans t2, fun j hj => ⟨(hf _ _ (by omega)).trans (t3 j hj).1, (t3 j hj).2⟩⟩ hi (by omega) h8
      exact ⟨M', g1, g2, fun p j hp => (g3 p j hp).trans (hf p j (by omega))⟩
theorem s_goOn (N d : Nat) (tx : Nat → Nat) (l e : Nat) (M : gM) (hN : 2000 ≤ N) (hT : txtX M tx l) (he : e ≤ l) (h9 : M 1 9 = (e : Int)) : ∃ M', gEv N (d + 2) 45 [.inr (.inr 2)] M = some (M', none) ∧ tokX M' tx l (nS tx l e) ∧ ∀ p j, ¬ (p = 1 ∧ 8 ≤ j ∧ j ≤ 10) → M' p j = M p j := by
  obtain ⟨t1, t2, t3⟩ := id hT
  obtain ⟨M', g1, g2, g3⟩ := l_go8 N d tx l (gU M 1 8 (M 1 9)) ⟨t1, (gU_off _ _ (by omega)).trans t2, fun j hj => ⟨(gU_off _ _ (by omega)).trans (t3 j hj).1, (t3 j hj).2⟩⟩ (l - e) e N (gU M 1 8 (M 1 9)) rfl he (by omega) (fun _ _ _ => rfl) ((gU_same _ _ _ _).trans h9)
  exact ⟨M', (q_X7_goOn N (d + 1) M).trans g1, g2, fun p j hp => (g3 p j hp).trans (gU_off _ _ (by omega))⟩
-- the model's
theorem s_isLetter (N d c : Nat) (M : gM) (hc : c ≤ 255) : gEv N (d + 2) 102 [.inl (c : Int)] M = some (M, some (.inl (bI (decide (srt c = 0))))) := by
  rw [q_X10_isLetter, s_min N d (c : Int) 97 122 (((97 : Nat) : Int) - ((0 : Nat) : Int)) (((122 : Nat) : Int) - ((0 : Nat) : Int)) M (rng_c (by omega) (by omega)) (rng_c (by omega) (by omega)) (rng_c (by omega) (by omega)) rfl rfl, gCi_some]
  have e : decide ((97 : Int) ≤ (c : Int) ∧ (c : Int) ≤ 122) = decide (srt c = 0) := decide_eq_decide.mpr (by
    unfold srt
    by_cases h : 97 ≤ c ∧ c ≤ 122
    · rw [if_pos h]; omega
    · rw [if_neg h]
      split <;> omega)
  rw [e, bI_B, gIf_t]
theorem s_isDigit (N d c : Nat) (M : gM) (hc : c ≤ 255) : gEv N (d + 2) 103 [.inl (c : Int)] M = some (M, some (.inl (bI (decide (srt c = 1))))) := by
  rw [q_X10_isDigit, s_min N d (c : Int) 48 57 (((48 : Nat) : Int) - ((0 : Nat) : Int)) (((57 : Nat) : Int) - ((0 : Nat) : Int)) M (rng_c (by omega) (by omega)) (rng_c (by omega) (by omega)) (rng_c (by omega) (by omega)) rfl rfl, gCi_some]
  have e : decide ((48 : Int) ≤ (c : Int) ∧ (c : Int) ≤ 57) = decide (srt c = 1) := decide_eq_decide.mpr (by
    unfold srt
    by_cases h : 97 ≤ c ∧ c ≤ 122
    · rw [if_pos h]; omega
    · rw [if_neg h]
      by_cases h2 : 48 ≤ c ∧ c ≤ 57
      · rw [if_pos h2]; omega
      · rw [if_neg h2]; omega)
  rw [e, bI_B, gIf_t]
theorem l_nt100 (N d : Nat) (tx : Nat → Nat) (l : Nat) (M0 : gM) (hT : txtM M0 tx l) : ∀ (r i z : Nat) (M : gM), r = l - i → i ≤ l → r < z → (∀ p j, ¬ (p = 81 ∧ j = 13) → M p j = M0 p j) → M 81 13 = (i : Int) → ∃ M', L_X10_nextToken_100 (gEv N (d + 2)) z M = some (M', none) ∧ M' 81 13 = ((exT tx l 0 i r : Nat) : Int) ∧ ∀ p j, ¬ (p = 81 ∧ j = 13) → M' p j = M0 p j := by
  obtain ⟨t1, t2, t3⟩ := hT
  intro r
  induction r with
  | zero =>
    intro i z M hr hi hz hf h9
    obtain ⟨z, rfl⟩ : ∃ y, z = y + 1 := ⟨z - 1, by omega⟩
    refine ⟨M, ?_, h9, hf⟩
    rw [q_X10_nextToken_100, h9, hf 81 4 (by omega), t2, gLt_f (by omega) (by omega) (by omega), cond_false]
  | succ r ih =>
    intro i z M hr hi hz hf h9
    obtain ⟨z, rfl⟩ : ∃ y, z = y + 1 := ⟨z - 1, by omega⟩
    obtain ⟨t4, t5⟩ := t3 i (by omega)
    have e : L_X10_nextToken_100 (gEv N (d + 2)) (z + 1) M = cond (!(decide (srt (tx i) = 0))) (some (M, none)) (L_X10_nextToken_100 (gEv N (d + 2)) z (gU M 81 13 ((i + 1 : Nat) : Int))) := by
      rw [q_X10_nextToken_100, h9, hf 81 4 (by omega), t2, gIx_e (x := (i : Int)) (n := i) rfl (by omega), hf 84 i (by omega), t4, s_isLetter N d (tx i) M t5, gCi_some, bI_eq0, h9, cast_1 i, gLt_t (by omega) (by omega) (by omega), cond_true, gInb_t (by omega) (by omega) (by omega), gIf_t]
    rw [e]
    simp only [exT]
    by_cases h : srt (tx i) = 0
    · rw [if_pos ⟨by omega, h⟩, decide_eq_true h, Bool.not_true, cond_false]
      exact ih (i + 1) z (gU M 81 13 ((i + 1 : Nat) : Int)) (by omega) (by omega) (by omega) (fun p j hp => (gU_off _ _ hp).trans (hf p j hp)) (gU_same _ _ _ _)
    · rw [if_neg (fun w => h w.2), decide_eq_false h, Bool.not_false, cond_true]
      exact ⟨M, rfl, h9, hf⟩
theorem l_nt165 (N d : Nat) (tx : Nat → Nat) (l : Nat) (M0 : gM) (hT : txtM M0 tx l) : ∀ (r i z : Nat) (M : gM), r = l - i → i ≤ l → r < z → (∀ p j, ¬ (p = 81 ∧ j = 13) → M p j = M0 p j) → M 81 13 = (i : Int) → ∃ M', L_X10_nextToken_165 (gEv N (d + 2)) z M = some (M', none) ∧ M' 81 13 = ((exT tx l 1 i r : Nat) : Int) ∧ ∀ p j, ¬ (p = 81 ∧ j = 13) → M' p j = M0 p j := by
  obtain ⟨t1, t2, t3⟩ := hT
  intro r
  induction r with
  | zero =>
    intro i z M hr hi hz hf h9
    obtain ⟨z, rfl⟩ : ∃ y, z = y + 1 := ⟨z - 1, by omega⟩
    refine ⟨M, ?_, h9, hf⟩
    rw [q_X10_nextToken_165, h9, hf 81 4 (by omega), t2, gLt_f (by omega) (by omega) (by omega), cond_false]
  | succ r ih =>
    intro i z M hr hi hz hf h9
    obtain ⟨z, rfl⟩ : ∃ y, z = y + 1 := ⟨z - 1, by omega⟩
    obtain ⟨t4, t5⟩ := t3 i (by omega)
    have e : L_X10_nextToken_165 (gEv N (d + 2)) (z + 1) M = cond (!(decide (srt (tx i) = 1))) (some (M, none)) (L_X10_nextToken_165 (gEv N (d + 2)) z (gU M 81 13 ((i + 1 : Nat) : Int))) := by
      rw [q_X10_nextToken_165, h9, hf 81 4 (by omega), t2, gIx_e (x := (i : Int)) (n := i) rfl (by omega), hf 84 i (by omega), t4, s_isDigit N d (tx i) M t5, gCi_some, bI_eq0, h9, cast_1 i, gLt_t (by omega) (by omega) (by omega), cond_true, gInb_t (by omega) (by omega) (by omega), gIf_t]
    rw [e]
    simp only [exT]
    by_cases h : srt (tx i) = 1
    · rw [if_pos ⟨by omega, h⟩, decide_eq_true h, Bool.not_true, cond_false]
      exact ih (i + 1) z (gU M 81 13 ((i + 1 : Nat) : Int)) (by omega) (by omega) (by omega) (fun p j hp => (gU_off _ _ hp).trans (hf p j hp)) (gU_same _ _ _ _)
    · rw [if_neg (fun w => h w.2), decide_eq_false h, Bool.not_false, cond_true]
      exact ⟨M, rfl, h9, hf⟩
theorem l_nt71 (N d : Nat) (tx : Nat → Nat) (l s z : Nat) (M : gM) (hT : txtM M tx l) (hs : s ≤ l) (hz : 1000 ≤ z) (h12 : M 81 12 = (s : Int)) : ∃ M', L_X10_nextToken_46 (gEv N (d + 2)) z M = some (M', none) ∧ tokM M' tx l s ∧ ∀ p j, ¬ (p = 81 ∧ 12 ≤ j ∧ j ≤ 13) → M' p j = M p j := by
  obtain ⟨t1, t2, t3⟩ := id hT
  obtain ⟨z, rfl⟩ : ∃ y, z = y + 1 := ⟨z - 1, by omega⟩
  have e0 := q_X10_nextToken_46 (gEv N (d + 2)) z M
  rw [h12, t2] at e0
  obtain ⟨z, rfl⟩ : ∃ y, z = y + 1 := ⟨z - 1, by omega⟩
  have f1 : ∀ v p j, ¬ (p = 81 ∧ j = 13) → gU M 81 13 v p j = M p j := fun v p j hp => gU_off _ _ hp
  by_cases h : s < l
  · rw [gLt_t (by omega) (by omega) (by omega), cond_true, cast_1 s] at e0
    obtain ⟨t4, t5⟩ := t3 s h
    have e1 := q_X10_nextToken_71 (gEv N (d + 2)) z ((s + 1 : Nat) : Int) M
    have w13 : gU M 81 13 ((s + 1 : Nat) : Int) 81 13 = ((s + 1 : Nat) : Int) := gU_same _ _ _ _
    have f2 := f1 ((s + 1 : Nat) : Int)
    generalize gU M 81 13 ((s + 1 : Nat) : Int) = M1 at e1 w13 f2
    have hT1 : txtM M1 tx l := ⟨t1, (f2 _ _ (by omega)).trans t2, fun j hj => ⟨(f2 _ _ (by omega)).trans (t3 j hj).1, (t3 j hj).2⟩⟩
    rw [f2 81 12 (by omega), f2 81 4 (by omega), h12, t2, gIx_e (x := (s : Int)) (n := s) rfl (by omega), f2 84 s (by omega), t4, s_isLetter N d (tx s) M1 t5, gCi_some, bI_eq0, s_isDigit N d (tx s) M1 t5, gCi_some, bI_eq0, gLt_t (by omega) (by omega) (by omega), cond_true, gInb_t (by omega) (by omega) (by omega), gIf_t] at e1
    have hq := srt_lt (tx s)
    by_cases h0 : srt (tx s) = 0
    · obtain ⟨M2, g1, g2, g3⟩ := l_nt100 N d tx l M1 hT1 (l - (s + 1)) (s + 1) z M1 rfl (by omega) (by omega) (fun _ _ _ => rfl) w13
      rw [decide_eq_true h0, Bool.not_true, cond_false] at e1
      refine ⟨M2, (e0.trans e1).trans g1, ⟨(g3 _ _ (by omega)).trans ((f2 _ _ (by omega)).trans h12), ?_⟩, fun p j hp => (g3 p j (by omega)).trans (f2 p j (by omega))⟩
      unfold nE
      rw [if_pos h, if_neg (by omega), h0]
      exact g2
    · rw [decide_eq_false h0, Bool.not_false, cond_true, f2 81 12 (by omega), f2 81 4 (by omega), h12, t2, gIx_e (x := (s : Int)) (n := s) rfl (by omega), f2 84 s (by omega), t4, s_isDigit N d (tx s) M1 t5, gCi_some, bI_eq0, gLt_t (by omega) (by omega) (by omega), cond_true, gInb_t (by omega) (by omega) (by omega), gIf_t] at e1
      by_cases h1 : srt (tx s) = 1
      · obtain ⟨M2, g1, g2, g3⟩ := l_nt165 N d tx l M1 hT1 (l - (s + 1)) (s + 1) z M1 rfl (by omega) (by omega) (fun _ _ _ => rfl) w13
        rw [decide_eq_true h1, Bool.not_true, cond_false] at e1
        refine ⟨M2, (e0.trans e1).trans g1, ⟨(g3 _ _ (by omega)).trans ((f2 _ _ (by omega)).trans h12), ?_⟩, fun p j hp => (g3 p j (by omega)).trans (f2 p j (by omega))⟩
        unfold nE
        rw [if_pos h, if_neg (by omega), h1]
        exact g2
      · rw [decide_eq_false h1, Bool.not_false, cond_true] at e1
        refine ⟨M1, e0.trans e1, ⟨(f2 _ _ (by omega)).trans h12, ?_⟩, fun p j hp => f2 p j (by omega)⟩
        unfold nE
        rw [if_pos h, if_pos (by omega)]
        exact w13
  · rw [gLt_f (by omega) (by omega) (by omega), cond_false] at e0
    have e1 := q_X10_nextToken_71 (gEv N (d + 2)) z (s : Int) M
    have w13 : gU M 81 13 (s : Int) 81 13 = (s : Int) := gU_same _ _ _ _
    have f2 := f1 (s : Int)
    generalize gU M 81 13 (s : Int) = M1 at e1 w13 f2
    rw [f2 81 12 (by omega), f2 81 4 (by omega), h12, t2, gLt_f (by omega) (by omega) (by omega), cond_false, cond_false] at e1
    refine ⟨M1, e0.trans e1, ⟨(f2 _ _ (by omega)).trans h12, ?_⟩, fun p j hp => f2 p j (by omega)⟩
    unfold nE
    rw [if_neg h]
    exact w13
theorem l_nt8 (N d : Nat) (tx : Nat → Nat) (l : Nat) (M0 : gM) (hT : txtM M0 tx l) : ∀ (r i z : Nat) (M : gM), r = l - i → i ≤ l → r + 1000 < z → (∀ p j, ¬ (p = 81 ∧ j = 12) → M p j = M0 p j) → M 81 12 = (i : Int) → ∃ M', L_X10_nextToken_8 (gEv N (d + 2)) z M = some (M', none) ∧ tokM M' tx l (skB tx l i r) ∧ ∀ p j, ¬ (p = 81 ∧ 12 ≤ j ∧ j ≤ 13) → M' p j = M0 p j := by
  obtain ⟨t1, t2, t3⟩ := id hT
  intro r
  induction r with
  | zero =>
    intro i z M hr hi hz hf h8
    obtain ⟨z, rfl⟩ : ∃ y, z = y + 1 := ⟨z - 1, by omega⟩
    obtain ⟨M', g1, g2, g3⟩ := l_nt71 N d tx l i z M ⟨t1, (hf _ _ (by omega)).trans t2, fun j hj => ⟨(hf _ _ (by omega)).trans (t3 j hj).1, (t3 j hj).2⟩⟩ hi (by omega) h8
    refine ⟨M', ?_, g2, fun p j hp => (g3 p j hp).trans (hf p j (by omega))⟩
    rw [q_X10_nextToken_8, h8, hf 81 4 (by omega), t2, gLt_f (by omega) (by omega) (by omega), cond_false]
    exact g1
  | succ r ih =>
    intro i z M hr hi hz hf h8
    obtain ⟨z, rfl⟩ : ∃ y, z = y + 1 := ⟨z - 1, by omega⟩
    obtain ⟨t4, t5⟩ := t3 i (by omega)
    have e : L_X10_nextToken_8 (gEv N (d + 2)) (z + 1) M = cond (gEq ((tx i : Nat) : Int) 32) (L_X10_nextToken_8 (gEv N (d + 2)) z (gU M 81 12 ((i + 1 : Nat) : Int))) (L_X10_nextToken_46 (gEv N (d + 2)) z M) := by
      rw [q_X10_nextToken_8, h8, hf 81 4 (by omega), t2, gIx_e (x := (i : Int)) (n := i) rfl (by omega), hf 84 i (by omega), t4, cast_1 i, gLt_t (by omega) (by omega) (by omega), cond_true, gInb_t (by omega) (by omega) (by omega), gIf_t]
    rw [e]
    simp only [skB]
    by_cases h : tx i = 32
    · rw [if_pos ⟨by omega, h⟩, gEq_t (by omega), cond_true]
      exact ih (i + 1) z (gU M 81 12 ((i + 1 : Nat) : Int)) (by omega) (by omega) (by omega) (fun p j hp => (gU_off _ _ hp).trans (hf p j hp)) (gU_same _ _ _ _)
    · rw [if_neg (fun w => h w.2), gEq_f (by omega) (by omega) (by omega) (by omega) (by omega), cond_false]
      obtain ⟨M', g1, g2, g3⟩ := l_nt71 N d tx l i z M ⟨t1, (hf _ _ (by omega)).trans t2, fun j hj => ⟨(hf _ _ (by omega)).trans (t3 j hj).1, (t3 j hj).2⟩⟩ hi (by omega) h8
      exact ⟨M', g1, g2, fun p j hp => (g3 p j hp).trans (hf p j (by omega))⟩
theorem s_nextTok (N d : Nat) (tx : Nat → Nat) (l e : Nat) (M : gM) (hN : 2000 ≤ N) (hT : txtM M tx l) (he : e ≤ l) (h9 : M 81 13 = (e : Int)) : ∃ M', gEv N (d + 3) 104 [.inr (.inr 82)] M = some (M', none) ∧ tokM M' tx l (nS tx l e) ∧ ∀ p j, ¬ (p = 81 ∧ 12 ≤ j ∧ j ≤ 13) → M' p j = M p j := by
  obtain ⟨t1, t2, t3⟩ := id hT
  obtain ⟨M', g1, g2, g3⟩ := l_nt8 N d tx l (gU M 81 12 (M 81 13)) ⟨t1, (gU_off _ _ (by omega)).trans t2, fun j hj => ⟨(gU_off _ _ (by omega)).trans (t3 j hj).1, (t3 j hj).2⟩⟩ (l - e) e N (gU M 81 12 (M 81 13)) rfl he (by omega) (fun _ _ _ => rfl) ((gU_same _ _ _ _).trans h9)
  exact ⟨M', (q_X10_nextToken N (d + 2) M).trans g1, g2, fun p j hp => (g3 p j hp).trans (gU_off _ _ (by omega))⟩
