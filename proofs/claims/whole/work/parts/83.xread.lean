-- 83: the class's reading of the text
/-- the rest of a text, r clauses at most, from the end e of the last token on: the clauses, or none and the place of the fault -/
def rdT (tx : Nat → Nat) (l : Nat) : Nat → Nat → Nat → Nat → Option (List (Nat × List Nat)) × Nat
  | 0, e, _, _ => (none, e)
  | r + 1, e, pe, pa =>
    if (rdC tx l (nS tx l e) pe pa).1 = true then
      (if (rdC tx l (nS tx l e) pe pa).2.1 < l then
        (if tx (rdC tx l (nS tx l e) pe pa).2.1 = 59 ∧ r ≠ 0 then
          (match (rdT tx l r (nE tx l (rdC tx l (nS tx l e) pe pa).2.1) (rdC tx l (nS tx l e) pe pa).2.2.1 (rdC tx l (nS tx l e) pe pa).2.2.2.1).1 with
            | some L => (some ((rdC tx l (nS tx l e) pe pa).2.2.2.2 :: L), 0)
            | none => (none, (rdT tx l r (nE tx l (rdC tx l (nS tx l e) pe pa).2.1) (rdC tx l (nS tx l e) pe pa).2.2.1 (rdC tx l (nS tx l e) pe pa).2.2.2.1).2))
        else (none, (rdC tx l (nS tx l e) pe pa).2.1))
      else (some [(rdC tx l (nS tx l e) pe pa).2.2.2.2], 0))
    else (none, (rdC tx l (nS tx l e) pe pa).2.1)
theorem rdC_ok (tx : Nat → Nat) (l s pe pa : Nat) (hs : s ≤ l) (hpe : pe ≤ 7) (hpa : pa ≤ 12) : (rdC tx l s pe pa).2.1 ≤ l ∧ (rdC tx l s pe pa).2.2.1 ≤ 8 ∧ (rdC tx l s pe pa).2.2.2.1 ≤ 13 ∧ ((rdC tx l s pe pa).1 = true → (rdC tx l s pe pa).2.2.1 ≤ 7 ∧ (rdC tx l s pe pa).2.2.2.1 ≤ 12) := by
  have hE := nE_le (tx := tx) hs
  have hS := nS_le (tx := tx) hE.2.1
  have hE1 := nE_le (tx := tx) hS.2
  have hS1 := nS_le (tx := tx) hE1.2.1
  have hE2 := nE_le (tx := tx) hS1.2
  have hS2 := nS_le (tx := tx) hE2.2.1
  have hW := rdW_le tx l 3 (nS tx l (nE tx l s)) hS.2
  unfold rdC
  by_cases c1 : wdI tx l s = -1
  · rw [if_pos c1]
    exact ⟨hs, by simp only; omega, by simp only; omega, fun h => by cases h⟩
  rw [if_neg c1]
  by_cases c2 : wdI tx l s = 5
  · rw [if_pos c2]
    exact ⟨hS.2, by simp, by simp, fun _ => by simp⟩
  rw [if_neg c2]
  by_cases c3 : wdI tx l s = 6
  · rw [if_pos c3]
    by_cases c4 : 12 ≤ pa
    · rw [if_pos c4]
      exact ⟨hs, by simp only; omega, by simp only; omega, fun h => by cases h⟩
    rw [if_neg c4]
    cases h1 : vlO tx l (nS tx l (nE tx l s)) with
    | none => exact ⟨hS.2, by simp only; omega, by simp only; omega, fun h => by cases h⟩
    | some a =>
      simp only
      by_cases c5 : a < pe
      · rw [if_pos c5]
        cases h2 : vlO tx l (nS tx l (nE tx l (nS tx l (nE tx l s)))) with
        | none => exact ⟨hS1.2, by simp only; omega, by simp only; omega, fun h => by cases h⟩
        | some b =>
          simp only
          by_cases c6 : b < pe ∧ b ≠ a
          · rw [if_pos c6]
            exact ⟨hS2.2, by simp only; omega, by simp only; omega, fun _ => by simp only; omega⟩
          · rw [if_neg c6]
            exact ⟨hS1.2, by simp only; omega, by simp only; omega, fun h => by cases h⟩
      · rw [if_neg c5]
        exact ⟨hS.2, by simp only; omega, by simp only; omega, fun h => by cases h⟩
  · rw [if_neg c3]
    by_cases c4 : 7 ≤ pe
    · rw [if_pos c4]
      exact ⟨hs, by simp only; omega, by simp only; omega, fun h => by cases h⟩
    · rw [if_neg c4]
      exact ⟨hW.1, by simp only; omega, by simp only; omega, fun _ => by simp only; omega⟩
/-- the clauses lie in the class's rows from k on -/
def clX (M : gM) (k : Nat) (L : List (Nat × List Nat)) : Prop := ∀ i, i < L.length → M 3 (k + i) = (((L.getD i (0, [])).1 : Nat) : Int) ∧ M 4 (k + i) = (((L.getD i (0, [])).2.length : Nat) : Int) ∧ ∀ j, j < (L.getD i (0, [])).2.length → M 5 (3 * (k + i) + j) = ((((L.getD i (0, [])).2.getD j 0) : Nat) : Int)
def rdF (M M' : gM) : Prop := ∀ q i, ¬ ((q = 1 ∧ i ≠ 1) ∨ (3 ≤ q ∧ q ≤ 5)) → M' q i = M q i
theorem rdC_len (tx : Nat → Nat) (l s pe pa : Nat) (hs : s ≤ l) : (rdC tx l s pe pa).2.2.2.2.2.length ≤ 3 := by
  have hE := nE_le (tx := tx) hs
  have hS := nS_le (tx := tx) hE.2.1
  have hW := rdW_le tx l 3 (nS tx l (nE tx l s)) hS.2
  unfold rdC
  by_cases c1 : wdI tx l s = -1
  · rw [if_pos c1]; simp
  rw [if_neg c1]
  by_cases c2 : wdI tx l s = 5
  · rw [if_pos c2]; simp
  rw [if_neg c2]
  by_cases c3 : wdI tx l s = 6
  · rw [if_pos c3]
    by_cases c4 : 12 ≤ pa
    · rw [if_pos c4]; simp
    rw [if_neg c4]
    cases h1 : vlO tx l (nS tx l (nE tx l s)) with
    | none => simp
    | some a =>
      simp only
      by_cases c5 : a < pe
      · rw [if_pos c5]
        cases h2 : vlO tx l (nS tx l (nE tx l (nS tx l (nE tx l s)))) with
        | none => simp
        | some b =>
          simp only
          by_cases c6 : b < pe ∧ b ≠ a
          · rw [if_pos c6]; simp
          · rw [if_neg c6]; simp
      · rw [if_neg c5]; simp
  · rw [if_neg c3]
    by_cases c4 : 7 ≤ pe
    · rw [if_pos c4]; simp
    · rw [if_neg c4]; exact hW.2.1
theorem l_xread (N d : Nat) (tx : Nat → Nat) (l : Nat) (x1 x2 : Int) (hN : 2000 ≤ N) : ∀ (r k e pe pa z : Nat) (M : gM), k + r = 20 → r < z → e ≤ l → pe ≤ 7 → pa ≤ 12 → txtX M tx l → M 1 9 = (e : Int) → M 1 2 = (k : Int) → M 1 6 = (pe : Int) → M 1 7 = (pa : Int) → 1 ≤ r → ∃ M', L_X7_read_20 (gEv N (d + 10)) z x1 x2 M = some (M', some (.inl (match (rdT tx l r e pe pa).1 with
      | some _ => -1
      | none => (((rdT tx l r e pe pa).2 : Nat) : Int)))) ∧ (∀ L, (rdT tx l r e pe pa).1 = some L → M' 1 2 = ((k + L.length : Nat) : Int) ∧ k + L.length ≤ 20 ∧ clX M' k L) ∧ (∀ i, i < k → M' 3 i = M 3 i ∧ M' 4 i = M 4 i) ∧ (∀ i, i < 3 * k → M' 5 i = M 5 i) ∧ rdF M M' := by
  intro r
  induction r with
  | zero =>
    intro k e pe pa z M hk hz he hpe hpa hT h9 h2 h6 h7 h8
    omega
  | succ r ih =>
    intro k e pe pa z M hk hz he hpe hpa hT h9 h2 h6 h7 h8
    obtain ⟨z, rfl⟩ : ∃ y, z = y + 1 := ⟨z - 1, by omega⟩
    have hS := nS_le (tx := tx) he
    obtain ⟨M1, g1, g2, g3⟩ := s_goOn N (d + 8) tx l e M hN hT he h9
    have hT1 : txtX M1 tx l := txtX_fr hT (fun q i hq => g3 q i (by omega))
    obtain ⟨M2, c1, c2, c3, c4⟩ := s_xclause N d tx l (nS tx l e) k pe pa M1 hN (by omega) hS.2 hT1 g2 hpe hpa ((g3 _ _ (by omega)).trans h6) ((g3 _ _ (by omega)).trans h7)
    have hT2 : txtX M2 tx l := txtX_fr hT1 (fun q i hq => c4 q i (by omega))
    obtain ⟨o1, o2, o3, o4⟩ := rdC_ok tx l (nS tx l e) pe pa hS.2 hpe hpa
    have ol := rdC_len tx l (nS tx l e) pe pa hS.2
    have e0 := q_X7_read_20 (gEv N (d + 10)) z x1 x2 M
    rw [h2, gLt_t (by omega) (by omega) (by omega), cond_true, g1, gCv_some, g3 1 2 (by omega), h2, c1, gCi_some, bI_eq0, c2] at e0
    have fr : rdF M M2 := fun q i hq => (c4 q i (by omega)).trans (g3 q i (by omega))
    have lo34 : ∀ i, i < k → M2 3 i = M 3 i ∧ M2 4 i = M 4 i := fun i hi => ⟨(c4 _ _ (by omega)).trans (g3 _ _ (by omega)), (c4 _ _ (by omega)).trans (g3 _ _ (by omega))⟩
    have lo5 : ∀ i, i < 3 * k → M2 5 i = M 5 i := fun i hi => (c4 _ _ (by omega)).trans (g3 _ _ (by omega))
    simp only [rdT]
    generalize hR : rdC tx l (nS tx l e) pe pa = R at *
    by_cases hok : R.1 = true
    · rw [if_pos hok]
      obtain ⟨x1', x2', x3', x4', x5', x6'⟩ := c3 hok
      obtain ⟨o5, o6⟩ := o4 hok
      rw [hok, Bool.not_true, cond_false] at e0
      have v2 : M2 1 2 = (k : Int) := (c4 _ _ (by omega)).trans ((g3 _ _ (by omega)).trans h2)
      have f3 : ∀ q i, ¬ (q = 1 ∧ i = 2) → gU M2 1 2 (M2 1 2 + 1) q i = M2 q i := fun q i hq => gU_off _ _ hq
      have w2 : gU M2 1 2 (M2 1 2 + 1) 1 2 = ((k + 1 : Nat) : Int) := by rw [gU_same, v2]; rfl
      generalize gU M2 1 2 (M2 1 2 + 1) = M3 at e0 f3 w2
      obtain ⟨t1, t2, t3⟩ := id hT2
      rw [f3 1 8 (by omega), f3 1 1 (by omega), x1'.1, t2, gIx_e (x := ((R.2.1 : Nat) : Int)) (n := R.2.1) rfl (by omega), f3 2 _ (by omega)] at e0
      have cl0 : ∀ M' : gM, (∀ i, i < k + 1 → M' 3 i = M3 3 i ∧ M' 4 i = M3 4 i) → (∀ i, i < 3 * (k + 1) → M' 5 i = M3 5 i) → M' 3 k = ((R.2.2.2.2.1 : Nat) : Int) ∧ M' 4 k = ((R.2.2.2.2.2.length : Nat) : Int) ∧ ∀ j, j < R.2.2.2.2.2.length → M' 5 (3 * k + j) = ((R.2.2.2.2.2.getD j 0 : Nat) : Int) := fun M' h1 h2 => by
        refine ⟨?_, ?_, fun j hj => ?_⟩
        · rw [(h1 k (by omega)).1, f3 _ _ (by omega), x4']
        · rw [(h1 k (by omega)).2, f3 _ _ (by omega), x5']
        · rw [h2 _ (by omega), f3 _ _ (by omega), x6' j hj]
      by_cases hlt : R.2.1 < l
      · rw [if_pos hlt]
        obtain ⟨t4, t5⟩ := t3 R.2.1 hlt
        rw [gLt_t (by omega) (by omega) (by omega), cond_true, t4, gInb_t (by omega) (by omega) (by omega), gIf_t] at e0
        by_cases hsc : tx R.2.1 = 59
        · rw [gEq_t (by omega), cond_true] at e0
          have hE := nE_le (tx := tx) o1
          by_cases hr0 : r = 0
          · rw [if_neg (fun w => w.2 hr0)]
            have e20 : ∀ z, 1 ≤ z → L_X7_read_20 (gEv N (d + 10)) z x1 x2 M3 = some (M3, some (.inl ((R.2.1 : Nat) : Int))) := fun z hz => by
              obtain ⟨z, rfl⟩ : ∃ y, z = y + 1 := ⟨z - 1, by omega⟩
              rw [q_X7_read_20, w2, gLt_f (by omega) (by omega) (by omega), cond_false, f3 _ _ (by omega), x1'.1]
            rw [e20 z (by omega)] at e0
            exact ⟨M3, e0, fun L h => (by cases h), fun i hi => ⟨(f3 _ _ (by omega)).trans (lo34 i hi).1, (f3 _ _ (by omega)).trans (lo34 i hi).2⟩, fun i hi => (f3 _ _ (by omega)).trans (lo5 i hi), fun q i hq => (f3 q i (by omega)).trans (fr q i hq)⟩
          · rw [if_pos ⟨hsc, hr0⟩]
            obtain ⟨M4, j1, j2, j3, j4, j5⟩ := ih (k + 1) (nE tx l R.2.1) R.2.2.1 R.2.2.2.1 z M3 (by omega) (by omega) hE.2.1 o5 o6 (txtX_fr hT2 (fun q i hq => f3 q i (by omega))) ((f3 _ _ (by omega)).trans x1'.2.1) w2 ((f3 _ _ (by omega)).trans x2') ((f3 _ _ (by omega)).trans x3') (by omega)
            have fr4 : (∀ i, i < k → M4 3 i = M 3 i ∧ M4 4 i = M 4 i) ∧ (∀ i, i < 3 * k → M4 5 i = M 5 i) ∧ rdF M M4 := ⟨fun i hi => ⟨((j3 i (by omega)).1.trans (f3 _ _ (by omega))).trans (lo34 i hi).1, ((j3 i (by omega)).2.trans (f3 _ _ (by omega))).trans (lo34 i hi).2⟩, fun i hi => ((j4 i (by omega)).trans (f3 _ _ (by omega))).trans (lo5 i hi), fun q i hq => (j5 q i hq).trans ((f3 q i (by omega)).trans (fr q i hq))⟩
            cases hL : (rdT tx l r (nE tx l R.2.1) R.2.2.1 R.2.2.2.1).1 with
            | none =>
              rw [hL] at j1
              exact ⟨M4, e0.trans j1, fun L h => (by cases h), fr4.1, fr4.2.1, fr4.2.2⟩
            | some L =>
              rw [hL] at j1
              obtain ⟨y1, y2, y3⟩ := j2 L hL
              refine ⟨M4, e0.trans j1, fun L' h => ?_, fr4.1, fr4.2.1, fr4.2.2⟩
              cases h
              refine ⟨?_, by simp only [List.length_cons]; omega, fun i hi => ?_⟩
              · rw [y1]
                simp only [List.length_cons]
                congr 1
                omega
              · match i with
                | 0 => exact cl0 M4 j3 j4
                | i + 1 =>
                  have := y3 i (by simp only [List.length_cons] at hi; omega)
                  rw [show k + (i + 1) = k + 1 + i by omega]
                  exact this
        · rw [gEq_f (by omega) (by omega) (by omega) (by omega) (by omega), cond_false] at e0
          rw [if_neg (fun w => hsc w.1)]
          exact ⟨M3, e0, fun L h => (by cases h), fun i hi => ⟨(f3 _ _ (by omega)).trans (lo34 i hi).1, (f3 _ _ (by omega)).trans (lo34 i hi).2⟩, fun i hi => (f3 _ _ (by omega)).trans (lo5 i hi), fun q i hq => (f3 q i (by omega)).trans (fr q i hq)⟩
      · rw [if_neg hlt]
        rw [gLt_f (by omega) (by omega) (by omega), cond_false] at e0
        refine ⟨M3, e0, fun L h => ?_, fun i hi => ⟨(f3 _ _ (by omega)).trans (lo34 i hi).1, (f3 _ _ (by omega)).trans (lo34 i hi).2⟩, fun i hi => (f3 _ _ (by omega)).trans (lo5 i hi), fun q i hq => (f3 q i (by omega)).trans (fr q i hq)⟩
        cases h
        refine ⟨w2, by simp; omega, fun i hi => ?_⟩
        have : i = 0 := by simp at hi; omega
        subst this
        exact cl0 M3 (fun _ _ => ⟨rfl, rfl⟩) (fun _ _ => rfl)
    · have hok' : R.1 = false := by
        cases hq : R.1 with
        | false => rfl
        | true => exact absurd hq hok
      rw [if_neg hok]
      rw [hok', Bool.not_false, cond_true] at e0
      exact ⟨M2, e0, fun L h => (by cases h), lo34, lo5, fr⟩
theorem s_xread (N d : Nat) (tx : Nat → Nat) (l pe pa : Nat) (M : gM) (hN : 2000 ≤ N) (hpe : pe ≤ 7) (hpa : pa ≤ 12) (hT : txtX M tx l) : ∃ M', gEv N (d + 11) 39 [.inr (.inr 2), .inl (pe : Int), .inl (pa : Int)] M = some (M', some (.inl (match (rdT tx l 20 0 pe pa).1 with
      | some _ => -1
      | none => (((rdT tx l 20 0 pe pa).2 : Nat) : Int)))) ∧ (∀ L, (rdT tx l 20 0 pe pa).1 = some L → M' 1 2 = ((L.length : Nat) : Int) ∧ L.length ≤ 20 ∧ clX M' 0 L) ∧ rdF M M' := by
  have f0 : ∀ q i, ¬ (q = 1 ∧ (i = 2 ∨ i = 6 ∨ i = 7 ∨ i = 9)) → gU (gU (gU (gU M 1 6 (pe : Int)) 1 7 (pa : Int)) 1 2 0) 1 9 0 q i = M q i := fun q i hq => by rw [gU_off _ _ (by omega), gU_off _ _ (by omega), gU_off _ _ (by omega), gU_off _ _ (by omega)]
  have w2 : gU (gU (gU (gU M 1 6 (pe : Int)) 1 7 (pa : Int)) 1 2 0) 1 9 0 1 2 = ((0 : Nat) : Int) := by rw [gU_off _ _ (by omega), gU_same]; rfl
  have w6 : gU (gU (gU (gU M 1 6 (pe : Int)) 1 7 (pa : Int)) 1 2 0) 1 9 0 1 6 = (pe : Int) := by rw [gU_off _ _ (by omega), gU_off _ _ (by omega), gU_off _ _ (by omega), gU_same]
  have w7 : gU (gU (gU (gU M 1 6 (pe : Int)) 1 7 (pa : Int)) 1 2 0) 1 9 0 1 7 = (pa : Int) := by rw [gU_off _ _ (by omega), gU_off _ _ (by omega), gU_same]
  have w9 : gU (gU (gU (gU M 1 6 (pe : Int)) 1 7 (pa : Int)) 1 2 0) 1 9 0 1 9 = ((0 : Nat) : Int) := by rw [gU_same]; rfl
  have e := q_X7_read N (d + 10) (pe : Int) (pa : Int) M
  generalize gU (gU (gU (gU M 1 6 (pe : Int)) 1 7 (pa : Int)) 1 2 0) 1 9 0 = M1 at e f0 w2 w6 w7 w9
  obtain ⟨M2, g1, g2, g3, g4, g5⟩ := l_xread N d tx l (pe : Int) (pa : Int) hN 20 0 0 pe pa N M1 (by omega) (by omega) (by omega) hpe hpa (txtX_fr hT (fun q i hq => f0 q i (by omega))) w9 w2 w6 w7 (by omega)
  refine ⟨M2, e.trans g1, fun L hL => ?_, fun q i hq => (g5 q i hq).trans (f0 q i (by omega))⟩
  obtain ⟨y1, y2, y3⟩ := g2 L hL
  exact ⟨by rw [y1, Nat.zero_add], by omega, y3⟩
