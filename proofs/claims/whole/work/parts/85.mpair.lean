-- 85: the model's pair, house and clause
def mcQ (tx : Nat → Nat) (l : Nat) (R : Bool × Nat × Nat × Nat × Nat × List Nat) (b : Bool) (T : TT) (M M' : gM) : Prop := M' 81 12 = ((R.2.1 : Nat) : Int) ∧ (R.1 = true → tokM M' tx l R.2.1 ∧ M' 81 14 = ((R.2.2.1 : Nat) : Int) ∧ M' 81 15 = ((R.2.2.2.1 : Nat) : Int) ∧ (b = true → tdM M' (exC R.2.2.2.2 T))) ∧ (b = false → ∀ i, M' 82 i = M 82 i) ∧ mcF M M'
theorem l_mp_do (a c pa : Nat) (M4 : gM) (hpa : pa < 12) (x15 : M4 81 15 = (pa : Int)) (a0 : M4 91 0 = (a : Int)) (a1 : M4 91 1 = (c : Int)) (h99 : M4 82 99 = (pa : Int)) : (
            gIf (gInb 0 3) (
            gIf (gInb (100 + (2 * (M4 81 15))) 443) (
            gIf (gInb 1 3) (
            gIf (gInb ((100 + (2 * (gU M4 82 (gIx (100 + (2 * (M4 81 15)))) (M4 91 (gIx 0)) 81 15))) + 1) 443) (
            gIf (gInb 99 443) (
            gIf (gInb 99 443) (
            gIf (gB01 1) (some (gU (gU (gU (gU M4 82 (gIx (100 + (2 * (M4 81 15)))) (M4 91 (gIx 0))) 82 (gIx ((100 + (2 * (gU M4 82 (gIx (100 + (2 * (M4 81 15)))) (M4 91 (gIx 0)) 81 15))) + 1)) ((gU M4 82 (gIx (100 + (2 * (M4 81 15)))) (M4 91 (gIx 0))) 91 (gIx 1))) 82 (gIx 99) (((gU (gU M4 82 (gIx (100 + (2 * (M4 81 15)))) (M4 91 (gIx 0))) 82 (gIx ((100 + (2 * (gU M4 82 (gIx (100 + (2 * (M4 81 15)))) (M4 91 (gIx 0)) 81 15))) + 1)) ((gU M4 82 (gIx (100 + (2 * (M4 81 15)))) (M4 91 (gIx 0))) 91 (gIx 1))) 82 (gIx 99)) + 1)) 81 15 ((gU (gU (gU M4 82 (gIx (100 + (2 * (M4 81 15)))) (M4 91 (gIx 0))) 82 (gIx ((100 + (2 * (gU M4 82 (gIx (100 + (2 * (M4 81 15)))) (M4 91 (gIx 0)) 81 15))) + 1)) ((gU M4 82 (gIx (100 + (2 * (M4 81 15)))) (M4 91 (gIx 0))) 91 (gIx 1))) 82 (gIx 99) (((gU (gU M4 82 (gIx (100 + (2 * (M4 81 15)))) (M4 91 (gIx 0))) 82 (gIx ((100 + (2 * (gU M4 82 (gIx (100 + (2 * (M4 81 15)))) (M4 91 (gIx 0)) 81 15))) + 1)) ((gU M4 82 (gIx (100 + (2 * (M4 81 15)))) (M4 91 (gIx 0))) 91 (gIx 1))) 82 (gIx 99)) + 1) 81 15) + 1), (some (.inl 1) : Option gV)))))))))) = some (gU (gU (gU (gU M4 82 (100 + 2 * pa) (a : Int)) 82 (101 + 2 * pa) (c : Int)) 82 99 ((pa + 1 : Nat) : Int)) 81 15 ((pa + 1 : Nat) : Int), some (.inl 1)) := by
  rw [x15, gIx_e (x := 100 + 2 * (pa : Int)) (n := 100 + 2 * pa) (by omega) (by omega), gIx_e (x := 0) (n := 0) rfl (by omega), gIx_e (x := 1) (n := 1) rfl (by omega), gIx_e (x := 99) (n := 99) rfl (by omega), a0, gU_off _ _ (show ¬ (81 = 82 ∧ 15 = 100 + 2 * pa) by omega), x15, gIx_e (x := 100 + 2 * (pa : Int) + 1) (n := 101 + 2 * pa) (by omega) (by omega), gU_off _ _ (show ¬ (91 = 82 ∧ 1 = 100 + 2 * pa) by omega), a1]
  rw [gU_off _ _ (show ¬ (82 = 82 ∧ 99 = 101 + 2 * pa) by omega), gU_off _ _ (show ¬ (82 = 82 ∧ 99 = 100 + 2 * pa) by omega), h99, cast_1 pa]
  rw [gU_off _ _ (show ¬ (81 = 82 ∧ 15 = 99) by omega), gU_off _ _ (show ¬ (81 = 82 ∧ 15 = 101 + 2 * pa) by omega), gU_off _ _ (show ¬ (81 = 82 ∧ 15 = 100 + 2 * pa) by omega), x15, cast_1 pa, gInb_t (x := 0) (by omega) (by omega) (by omega), gInb_t (x := 1) (by omega) (by omega) (by omega), gInb_t (x := 99) (by omega) (by omega) (by omega), gInb_t (by omega) (by omega) (by omega), gInb_t (by omega) (by omega) (by omega), gB01_1]
  rfl
theorem mcQ_f {tx : Nat → Nat} {l s pe pa w : Nat} {L : List Nat} {b : Bool} {T : TT} {M M' : gM} (h1 : M' 81 12 = (s : Int)) (h2 : ∀ i, M' 82 i = M 82 i) (h3 : mcF M M') : mcQ tx l (false, s, pe, pa, w, L) b T M M' := ⟨h1, fun h => (by cases h), fun _ => h2, h3⟩
theorem s_mpair (N d : Nat) (tx : Nat → Nat) (l s pe pa : Nat) (b : Bool) (T : TT) (M : gM) (hN : 2000 ≤ N) (hs : s ≤ l) (hT : txtM M tx l) (hK : tokM M tx l s) (h14 : M 81 14 = (pe : Int)) (h15 : M 81 15 = (pa : Int)) (h17 : M 81 17 = bI b) (hpe : pe ≤ 7) (hpa : pa ≤ 12) (hb : b = true → tdM M T ∧ tdO T ∧ T.1 = pe ∧ T.2.2.2.1 = pa) (hw : wdI tx l s = 6) : ∃ M', gEv N (d + 5) 109 [.inr (.inr 82)] M = some (M', some (.inl (bI (rdC tx l s pe pa).1))) ∧ mcQ tx l (rdC tx l s pe pa) b T M M' := by
  have hE := nE_le (tx := tx) hs
  have hS := nS_le (tx := tx) hE.2.1
  have hE1 := nE_le (tx := tx) hS.2
  have hS1 := nS_le (tx := tx) hE1.2.1
  have hE2 := nE_le (tx := tx) hS1.2
  have hS2 := nS_le (tx := tx) hE2.2.1
  have e := q_X10_readsPair N (d + 4) M
  unfold rdC
  rw [if_neg (show ¬ wdI tx l s = -1 by omega), if_neg (show ¬ wdI tx l s = 5 by omega), if_pos hw]
  rw [h15] at e
  by_cases c4 : 12 ≤ pa
  · rw [if_pos c4]
    rw [gEq_t (by omega), cond_true, gB01_0, gIf_t] at e
    exact ⟨M, e, mcQ_f hK.1 (fun _ => rfl) (fun _ _ _ => rfl)⟩
  rw [if_neg c4]
  obtain ⟨M1, g1, g2, g3⟩ := s_nextTok N (d + 1) tx l (nE tx l s) M hN hT hE.2.1 hK.2
  have hT1 : txtM M1 tx l := txtM_fr hT (fun q i hq => g3 q i (by omega))
  rw [gEq_f (by omega) (by omega) (by omega) (by omega) (by omega), cond_false, g1, gCv_some, g3 81 14 (by omega), h14] at e
  obtain ⟨n1, n2⟩ := s_mnumber N d tx l (nS tx l (nE tx l s)) 0 0 ((pe : Int) - 1) M1 hN hT1 hS.2 g2 (by omega) (rng_c (by omega) (by omega)) (rng_c (by omega) (by omega))
  have bad1 : (∀ v, vlO tx l (nS tx l (nE tx l s)) = some v → ¬ (0 ≤ (v : Int) ∧ (v : Int) ≤ (pe : Int) - 1)) → ∃ M', gEv N (d + 5) 109 [.inr (.inr 82)] M = some (M', some (.inl (bI false))) ∧ M' 81 12 = ((nS tx l (nE tx l s) : Nat) : Int) ∧ (∀ i, M' 82 i = M 82 i) ∧ mcF M M' := fun hx => by
    have q1 : gEv N (d + 4) 106 [.inr (.inr 82), .inl 0, .inl 0, .inl ((pe : Int) - 1)] M1 = _ := n2 hx
    rw [q1, gCi_some, gEq_refl, cond_true, gB01_0, gIf_t] at e
    exact ⟨M1, e, g2.1, fun i => g3 _ _ (by omega), fun q i hq => g3 q i (by omega)⟩
  cases h1 : vlO tx l (nS tx l (nE tx l s)) with
  | none =>
    obtain ⟨M', x1, x2, x3, x4⟩ := bad1 (fun v h => by rw [h1] at h; cases h)
    exact ⟨M', x1, mcQ_f x2 x3 x4⟩
  | some a =>
    simp only
    by_cases c5 : a < pe
    · rw [if_pos c5]
      obtain ⟨M2, y1, y2, y3, y4⟩ := n1 a h1 (by omega) (by omega)
      have q1 : gEv N (d + 4) 106 [.inr (.inr 82), .inl 0, .inl 0, .inl ((pe : Int) - 1)] M1 = _ := y1
      have hT2 : txtM M2 tx l := txtM_fr hT1 (fun q i hq => y4 q i (by omega))
      have f2 : ∀ q i, ¬ ((q = 91 ∧ i = 0) ∨ (q = 81 ∧ 12 ≤ i ∧ i ≤ 13)) → M2 q i = M q i := fun q i hq => (y4 q i (by omega)).trans (g3 q i (by omega))
      rw [q1, gCi_some, gEq_f (by decide) (by decide) (by decide) (by decide) (by decide), cond_false, f2 81 14 (by omega), h14] at e
      obtain ⟨m1, m2⟩ := s_mnumber N d tx l (nS tx l (nE tx l (nS tx l (nE tx l s)))) 1 0 ((pe : Int) - 1) M2 hN hT2 hS1.2 y3 (by omega) (rng_c (by omega) (by omega)) (rng_c (by omega) (by omega))
      have bad2 : (∀ v, vlO tx l (nS tx l (nE tx l (nS tx l (nE tx l s)))) = some v → ¬ (0 ≤ (v : Int) ∧ (v : Int) ≤ (pe : Int) - 1)) → ∃ M', gEv N (d + 5) 109 [.inr (.inr 82)] M = some (M', some (.inl (bI false))) ∧ M' 81 12 = ((nS tx l (nE tx l (nS tx l (nE tx l s))) : Nat) : Int) ∧ (∀ i, M' 82 i = M 82 i) ∧ mcF M M' := fun hx => by
        have q2 : gEv N (d + 4) 106 [.inr (.inr 82), .inl 1, .inl 0, .inl ((pe : Int) - 1)] M2 = _ := m2 hx
        rw [q2, gCi_some, gEq_refl, cond_true, gB01_0, gIf_t] at e
        exact ⟨M2, e, y3.1, fun i => f2 _ _ (by omega), fun q i hq => f2 q i (by omega)⟩
      cases h2 : vlO tx l (nS tx l (nE tx l (nS tx l (nE tx l s)))) with
      | none =>
        obtain ⟨M', x1, x2, x3, x4⟩ := bad2 (fun v h => by rw [h2] at h; cases h)
        exact ⟨M', x1, mcQ_f x2 x3 x4⟩
      | some c =>
        simp only
        have hab := vlO_bd h1
        have hcb := vlO_bd h2
        by_cases c6 : c < pe
        · obtain ⟨M4, z1, z2, z3, z4⟩ := m1 c h2 (by omega) (by omega)
          have q2 : gEv N (d + 4) 106 [.inr (.inr 82), .inl 1, .inl 0, .inl ((pe : Int) - 1)] M2 = _ := z1
          have f4 : ∀ q i, ¬ ((q = 91 ∧ i ≤ 1) ∨ (q = 81 ∧ 12 ≤ i ∧ i ≤ 13)) → M4 q i = M q i := fun q i hq => (z4 q i (by omega)).trans (f2 q i (by omega))
          have a0 : M4 91 0 = (a : Int) := (z4 _ _ (by omega)).trans y2
          rw [q2, gCi_some, gEq_f (by decide) (by decide) (by decide) (by decide) (by decide), cond_false, gInb_t (x := 0) (by omega) (by omega) (by omega), gIf_t, gInb_t (x := 1) (by omega) (by omega) (by omega), gIf_t] at e
          by_cases c7 : c = a
          · rw [if_neg (fun w => w.2 c7)]
            rw [show gEq (M4 91 (gIx 0)) (M4 91 (gIx 1)) = true from gEq_t (by rw [gIx_e (x := 0) (n := 0) rfl (by omega), gIx_e (x := 1) (n := 1) rfl (by omega), a0, z2, c7]), cond_true, gB01_0, gIf_t] at e
            refine ⟨_, e, mcQ_f ?_ (fun i => ?_) (fun q i hq => ?_)⟩
            · rw [gU_off _ _ (by omega), gU_same, y3.1]
            · rw [gU_off _ _ (by omega), gU_off _ _ (by omega), f4 _ _ (by omega)]
            · rw [gU_off _ _ (by omega), gU_off _ _ (by omega), f4 _ _ (by omega)]
          · rw [if_pos ⟨c6, c7⟩]
            rw [show gEq (M4 91 (gIx 0)) (M4 91 (gIx 1)) = false from gEq_f (by rw [gIx_e (x := 0) (n := 0) rfl (by omega), gIx_e (x := 1) (n := 1) rfl (by omega), a0, z2]; omega) (by rw [gIx_e (x := 0) (n := 0) rfl (by omega), a0]; omega) (by rw [gIx_e (x := 0) (n := 0) rfl (by omega), a0]; omega) (by rw [gIx_e (x := 1) (n := 1) rfl (by omega), z2]; omega) (by rw [gIx_e (x := 1) (n := 1) rfl (by omega), z2]; omega), cond_false, f4 81 17 (by omega), h17, bI_eq0] at e
            cases b with
            | false =>
              rw [Bool.not_false, cond_true, gB01_1, gIf_t, f4 81 15 (by omega), h15, cast_1 pa] at e
              refine ⟨_, e, ?_, fun _ => ⟨⟨?_, ?_⟩, ?_, gU_same _ _ _ _, fun h => (by cases h)⟩, fun _ i => ?_, fun q i hq => ?_⟩
              · exact (gU_off _ _ (by omega)).trans z3.1
              · exact (gU_off _ _ (by omega)).trans z3.1
              · exact (gU_off _ _ (by omega)).trans z3.2
              · exact (gU_off _ _ (by omega)).trans ((f4 _ _ (by omega)).trans h14)
              · exact (gU_off _ _ (by omega)).trans (f4 _ _ (by omega))
              · exact (gU_off _ _ (by omega)).trans (f4 _ _ (by omega))
            | true =>
              obtain ⟨hd, hO, hTn, hTp⟩ := hb rfl
              obtain ⟨d1, d2, d3, d4, d5⟩ := id hd
              obtain ⟨t1, t2, t3, t4⟩ := id hO
              have w := l_mp_do a c pa M4 (by omega) ((f4 _ _ (by omega)).trans h15) a0 z2 (by rw [f4 _ _ (by omega), d4, hTp])
              rw [gInb_t (x := 0) (by omega) (by omega) (by omega), gInb_t (x := 1) (by omega) (by omega) (by omega)] at w
              rw [Bool.not_true, cond_false, w] at e
              have f5 : ∀ q i, ¬ ((q = 82 ∧ (i = 99 ∨ i = 100 + 2 * pa ∨ i = 101 + 2 * pa)) ∨ (q = 81 ∧ i = 15)) → gU (gU (gU (gU M4 82 (100 + 2 * pa) (a : Int)) 82 (101 + 2 * pa) (c : Int)) 82 99 ((pa + 1 : Nat) : Int)) 81 15 ((pa + 1 : Nat) : Int) q i = M4 q i := fun q i hq => by rw [gU_off _ _ (by omega), gU_off _ _ (by omega), gU_off _ _ (by omega), gU_off _ _ (by omega)]
              have w1 : gU (gU (gU (gU M4 82 (100 + 2 * pa) (a : Int)) 82 (101 + 2 * pa) (c : Int)) 82 99 ((pa + 1 : Nat) : Int)) 81 15 ((pa + 1 : Nat) : Int) 82 (100 + 2 * pa) = (a : Int) := by rw [gU_off _ _ (by omega), gU_off _ _ (by omega), gU_off _ _ (by omega), gU_same]
              have w2 : gU (gU (gU (gU M4 82 (100 + 2 * pa) (a : Int)) 82 (101 + 2 * pa) (c : Int)) 82 99 ((pa + 1 : Nat) : Int)) 81 15 ((pa + 1 : Nat) : Int) 82 (101 + 2 * pa) = (c : Int) := by rw [gU_off _ _ (by omega), gU_off _ _ (by omega), gU_same]
              have w3 : gU (gU (gU (gU M4 82 (100 + 2 * pa) (a : Int)) 82 (101 + 2 * pa) (c : Int)) 82 99 ((pa + 1 : Nat) : Int)) 81 15 ((pa + 1 : Nat) : Int) 82 99 = ((pa + 1 : Nat) : Int) := by rw [gU_off _ _ (by omega), gU_same]
              have w4 : gU (gU (gU (gU M4 82 (100 + 2 * pa) (a : Int)) 82 (101 + 2 * pa) (c : Int)) 82 99 ((pa + 1 : Nat) : Int)) 81 15 ((pa + 1 : Nat) : Int) 81 15 = ((pa + 1 : Nat) : Int) := gU_same _ _ _ _
              generalize gU (gU (gU (gU M4 82 (100 + 2 * pa) (a : Int)) 82 (101 + 2 * pa) (c : Int)) 82 99 ((pa + 1 : Nat) : Int)) 81 15 ((pa + 1 : Nat) : Int) = M5 at e f5 w1 w2 w3 w4
              have f6 : ∀ q i, ¬ (q = 91 ∨ (q = 81 ∧ 12 ≤ i ∧ i ≤ 15) ∨ (q = 82 ∧ (i = 99 ∨ i = 100 + 2 * pa ∨ i = 101 + 2 * pa))) → M5 q i = M q i := fun q i hq => (f5 q i (by omega)).trans (f4 q i (by omega))
              refine ⟨M5, e, ?_, fun _ => ⟨⟨?_, ?_⟩, ?_, w4, fun _ => ?_⟩, fun h => (by cases h), fun q i hq => f6 q i (by omega)⟩
              · exact (f5 _ _ (by omega)).trans z3.1
              · exact (f5 _ _ (by omega)).trans z3.1
              · exact (f5 _ _ (by omega)).trans z3.2
              · exact (f5 _ _ (by omega)).trans ((f4 _ _ (by omega)).trans h14)
              · unfold exC
                rw [if_neg (by simp), if_pos rfl]
                refine ⟨(f6 _ _ (by omega)).trans d1, fun p hp => (f6 _ _ (by simp only at hp; omega)).trans (d2 p hp), kH_fr d3 (fun p hp => (t3 p hp).2) t1 (fun i i1 i2 => f6 _ _ (by omega)), ?_, fun k hk => ?_⟩
                · simp only
                  rw [hTp]
                  exact w3
                · simp only [List.getD_cons_zero, List.getD_cons_succ] at hk ⊢
                  by_cases hkc : k = T.2.2.2.1
                  · subst hkc
                    rw [upH_same, upH_same, hTp]
                    exact ⟨w1, w2⟩
                  · rw [upH_off _ _ hkc, upH_off _ _ hkc, f6 _ _ (by omega), f6 _ _ (by omega)]
                    exact d5 k (by omega)
        · rw [if_neg (fun w => c6 w.1)]
          obtain ⟨M', x1, x2, x3, x4⟩ := bad2 (fun v h => by rw [h2] at h; cases h; omega)
          exact ⟨M', x1, mcQ_f x2 x3 x4⟩
    · rw [if_neg c5]
      obtain ⟨M', x1, x2, x3, x4⟩ := bad1 (fun v h => by rw [h1] at h; cases h; omega)
      exact ⟨M', x1, mcQ_f x2 x3 x4⟩
theorem l_mh16 (C : gCl) (M0 : gM) (h17 : M0 81 17 = 1) : ∀ (r k z : Nat) (M : gM), k + r = 62 → r < z → (∀ q i, ¬ (q = 82 ∧ 62 ≤ i ∧ i < 124) → M q i = M0 q i) → (∀ i, i < k → M 82 (62 + i) = 0) → ∃ M', L_X10_readsHouse_16 C z (k : Int) M = some (M', some (.inl 1)) ∧ (∀ i, i < 62 → M' 82 (62 + i) = 0) ∧ ∀ q i, ¬ (q = 82 ∧ 62 ≤ i ∧ i < 124) → M' q i = M0 q i := by
  intro r
  induction r with
  | zero =>
    intro k z M hk hz hf h
    obtain ⟨z, rfl⟩ : ∃ y, z = y + 1 := ⟨z - 1, by omega⟩
    have e := q_X10_readsHouse_16 C z (k : Int) M
    rw [gLt_f (by omega) (by omega) (by omega), cond_false, gB01_1, gIf_t] at e
    exact ⟨M, e, fun i hi => h i (by omega), hf⟩
  | succ r ih =>
    intro k z M hk hz hf h
    obtain ⟨z, rfl⟩ : ∃ y, z = y + 1 := ⟨z - 1, by omega⟩
    have e := q_X10_readsHouse_16 C z (k : Int) M
    rw [gLt_t (by omega) (by omega) (by omega), cond_true, hf 81 17 (by omega), h17, gEq_f (by decide) (by decide) (by decide) (by decide) (by decide), cond_false, gInb_t (by omega) (by omega) (by omega), gIf_t, gIx_e (x := 62 + (k : Int)) (n := 62 + k) (by omega) (by omega), cast_1 k] at e
    obtain ⟨M', g1, g2⟩ := ih (k + 1) z (gU M 82 (62 + k) 0) (by omega) (by omega) (fun q i hq => (gU_off _ _ (by omega)).trans (hf q i hq)) (fun i hi => by
      by_cases hik : i = k
      · subst hik; rw [gU_same]
      · rw [gU_off _ _ (by omega)]; exact h i (by omega))
    exact ⟨M', e.trans g1, g2⟩
theorem s_mhouse (N d : Nat) (tx : Nat → Nat) (l s pe pa : Nat) (b : Bool) (T : TT) (M : gM) (hN : 2000 ≤ N) (hs : s ≤ l) (hT : txtM M tx l) (hK : tokM M tx l s) (h17 : M 81 17 = bI b) (hw : wdI tx l s = 5) : ∃ M', gEv N (d + 5) 110 [.inr (.inr 82)] M = some (M', some (.inl (bI (rdC tx l s pe pa).1))) ∧ mcQ tx l (rdC tx l s pe pa) b T M M' := by
  have hE := nE_le (tx := tx) hs
  have e := q_X10_readsHouse N (d + 4) M
  unfold rdC
  rw [if_neg (show ¬ wdI tx l s = -1 by omega), if_pos hw]
  obtain ⟨M1, g1, g2, g3⟩ := s_nextTok N (d + 1) tx l (nE tx l s) M hN hT hE.2.1 hK.2
  rw [g1, gCv_some] at e
  have f2 : ∀ q i, ¬ (q = 81 ∧ 12 ≤ i ∧ i ≤ 15) → gU (gU M1 81 14 0) 81 15 0 q i = M q i := fun q i hq => by rw [gU_off _ _ (by omega), gU_off _ _ (by omega), g3 _ _ (by omega)]
  have w1 : gU (gU M1 81 14 0) 81 15 0 81 12 = ((nS tx l (nE tx l s) : Nat) : Int) := by rw [gU_off _ _ (by omega), gU_off _ _ (by omega)]; exact g2.1
  have w2 : gU (gU M1 81 14 0) 81 15 0 81 13 = ((nE tx l (nS tx l (nE tx l s)) : Nat) : Int) := by rw [gU_off _ _ (by omega), gU_off _ _ (by omega)]; exact g2.2
  have w3 : gU (gU M1 81 14 0) 81 15 0 81 14 = 0 := by rw [gU_off _ _ (by omega), gU_same]
  have w4 : gU (gU M1 81 14 0) 81 15 0 81 15 = 0 := gU_same _ _ _ _
  generalize gU (gU M1 81 14 0) 81 15 0 = M2 at e f2 w1 w2 w3 w4
  cases b with
  | false =>
    obtain ⟨y, rfl⟩ : ∃ y, N = y + 1 := ⟨N - 1, by omega⟩
    have e2 := q_X10_readsHouse_16 (gEv (y + 1) (d + 4)) y 0 M2
    rw [gLt_t (by omega) (by omega) (by omega), cond_true, f2 81 17 (by omega), h17, bI_eq0, Bool.not_false, cond_true, gB01_1, gIf_t] at e2
    exact ⟨M2, e.trans e2, w1, fun _ => ⟨⟨w1, w2⟩, w3, w4, fun h => (by cases h)⟩, fun _ i => f2 _ _ (by omega), fun q i hq => f2 q i (by omega)⟩
  | true =>
    obtain ⟨M3, z1, z2, z3⟩ := l_mh16 (gEv N (d + 4)) M2 ((f2 81 17 (by omega)).trans h17) 62 0 N M2 (by omega) (by omega) (fun _ _ _ => rfl) (fun i hi => absurd hi (Nat.not_lt_zero i))
    refine ⟨M3, e.trans z1, (z3 _ _ (by omega)).trans w1, fun _ => ⟨⟨(z3 _ _ (by omega)).trans w1, (z3 _ _ (by omega)).trans w2⟩, (z3 _ _ (by omega)).trans w3, (z3 _ _ (by omega)).trans w4, fun _ => ?_⟩, fun h => (by cases h), fun q i hq => (z3 q i (by omega)).trans (f2 q i (by omega))⟩
    unfold exC
    rw [if_pos rfl]
    exact ⟨z2 29 (by omega), fun p hp => absurd hp (Nat.not_lt_zero p), ⟨z2 28 (by omega), fun p hp => absurd hp (Nat.not_lt_zero p)⟩, z2 37 (by omega), fun k hk => absurd hk (Nat.not_lt_zero k)⟩
theorem fB75 (f : Nat → Bool) : fB f 0 7 = (if fB f 0 5 = -1 then (if f 5 then 5 else if f 6 then 6 else -1) else fB f 0 5) := by
  simp only [fB, Nat.zero_add, Nat.reduceAdd]
  rcases Bool.eq_false_or_eq_true (f 0) with h0 | h0
  · simp [h0]
  rcases Bool.eq_false_or_eq_true (f 1) with h1 | h1
  · simp [h0, h1]
  rcases Bool.eq_false_or_eq_true (f 2) with h2 | h2
  · simp [h0, h1, h2]
  rcases Bool.eq_false_or_eq_true (f 3) with h3 | h3
  · simp [h0, h1, h2, h3]
  rcases Bool.eq_false_or_eq_true (f 4) with h4 | h4
  · simp [h0, h1, h2, h3, h4]
  rcases Bool.eq_false_or_eq_true (f 5) with h5 | h5
  · simp [h0, h1, h2, h3, h4, h5]
  rcases Bool.eq_false_or_eq_true (f 6) with h6 | h6
  · simp [h0, h1, h2, h3, h4, h5, h6]
  simp [h0, h1, h2, h3, h4, h5, h6]
theorem s_mclause (N d : Nat) (tx : Nat → Nat) (l s pe pa : Nat) (b : Bool) (T : TT) (M : gM) (hN : 2000 ≤ N) (hs : s ≤ l) (hT : txtM M tx l) (hK : tokM M tx l s) (h14 : M 81 14 = (pe : Int)) (h15 : M 81 15 = (pa : Int)) (h17 : M 81 17 = bI b) (hpe : pe ≤ 7) (hpa : pa ≤ 12) (hb : b = true → tdM M T ∧ tdO T ∧ T.1 = pe ∧ T.2.2.2.1 = pa) (hW : iWrd M) : ∃ M', gEv N (d + 6) 111 [.inr (.inr 82)] M = some (M', some (.inl (bI (rdC tx l s pe pa).1))) ∧ mcQ tx l (rdC tx l s pe pa) b T M M' := by
  have hE := nE_le (tx := tx) hs
  have hS := nS_le (tx := tx) hE.2.1
  have e := q_X10_readsClause N (d + 5) M
  have k1 := s_kindHere N (d + 3) tx l s M (by omega) hT hs hK hW
  have w5 : gEv N (d + 5) 105 [.inr (.inr 82), .inr (.inr 93)] M = _ := s_isWord N (d + 4) tx l s 5 M (by omega) (by omega) hT hs hK hW
  have w6 : gEv N (d + 5) 105 [.inr (.inr 82), .inr (.inr 99)] M = _ := s_isWord N (d + 4) tx l s 6 M (by omega) (by omega) hT hs hK hW
  have h75 := fB75 (fun j => isWB tx l s (gStr j))
  rw [k1, gCi_some] at e
  rcases fB_cases (fun j => isWB tx l s (gStr j)) 5 0 with hk | ⟨j, _, hj, hk⟩
  · rw [hk, if_pos rfl] at h75
    rw [hk, gEq_refl, cond_true, w5, gCi_some, bI_eq0] at e
    by_cases c5 : isWB tx l s (gStr 5) = true
    · rw [if_pos c5] at h75
      rw [c5, Bool.not_true, cond_false] at e
      obtain ⟨M', x1, x2⟩ := s_mhouse N d tx l s pe pa b T M hN hs hT hK h17 h75
      rw [x1, gCi_some, bI_B, gIf_t] at e
      exact ⟨M', e, x2⟩
    · rw [if_neg c5] at h75
      have c5' : isWB tx l s (gStr 5) = false := by cases h : isWB tx l s (gStr 5) <;> simp_all
      rw [c5', Bool.not_false, cond_true, w6, gCi_some, bI_eq0] at e
      by_cases c6 : isWB tx l s (gStr 6) = true
      · rw [if_pos c6] at h75
        rw [c6, Bool.not_true, cond_false] at e
        obtain ⟨M', x1, x2⟩ := s_mpair N d tx l s pe pa b T M hN hs hT hK h14 h15 h17 hpe hpa hb h75
        rw [x1, gCi_some, bI_eq0] at e
        refine ⟨M', ?_, x2⟩
        rw [e]
        cases (rdC tx l s pe pa).1
        · rw [Bool.not_false, cond_true, gB01_0]; rfl
        · rw [Bool.not_true, cond_false, gB01_1]; rfl
      · rw [if_neg c6] at h75
        have c6' : isWB tx l s (gStr 6) = false := by cases h : isWB tx l s (gStr 6) <;> simp_all
        rw [c6', Bool.not_false, cond_true, gB01_0, gIf_t] at e
        unfold rdC
        rw [if_pos (show wdI tx l s = -1 from h75)]
        exact ⟨M, e, mcQ_f hK.1 (fun _ => rfl) (fun _ _ _ => rfl)⟩
  · rw [hk, if_neg (by omega)] at h75
    have hw : wdI tx l s = ((j : Nat) : Int) := h75
    rw [hk, gEq_f (by omega) (by omega) (by omega) (by omega) (by omega), cond_false, k1, gCi_some, hk] at e
    unfold rdC
    rw [if_neg (by rw [hw]; omega), if_neg (by rw [hw]; omega), if_neg (by rw [hw]; omega)]
    by_cases c7 : 7 ≤ pe
    · rw [if_pos c7]
      have e2 := q_X10_readsPerson N (d + 4) (j : Int) M
      rw [h14, gEq_t (by omega), cond_true, gB01_0, gIf_t] at e2
      rw [e2, gCi_some, gB01_0, gIf_t] at e
      exact ⟨M, e, mcQ_f hK.1 (fun _ => rfl) (fun _ _ _ => rfl)⟩
    · rw [if_neg c7]
      obtain ⟨M', x1, x2, x3, x4, x5, x6⟩ := s_mperson N d tx l s j pe b T M hN (by omega) hs hT hK h14 h17 (by omega) (fun h => ⟨(hb h).1, (hb h).2.1, (hb h).2.2.1⟩)
      rw [x1, gCi_some, bI_B, gIf_t] at e
      refine ⟨M', e, x2, fun h => ?_, x5, x6⟩
      obtain ⟨y1, y2, y3⟩ := x3 h
      refine ⟨y1, y2, x4.trans h15, fun hbt => ?_⟩
      simp only
      rw [hw, Int.toNat_natCast]
      exact y3 hbt
