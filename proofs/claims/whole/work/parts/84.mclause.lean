-- 84: what is told; the model's clauses
abbrev TT : Type := Nat × (Nat → Nat) × (Nat → List Int) × Nat × (Nat → Nat) × (Nat → Nat)
def tdM (M : gM) (T : TT) : Prop := M 82 91 = (T.1 : Int) ∧ (∀ p, p < T.1 → M 82 (92 + p) = ((T.2.1 p : Nat) : Int)) ∧ kH M T.1 62 0 T.2.2.1 ∧ M 82 99 = (T.2.2.2.1 : Int) ∧ ∀ k, k < T.2.2.2.1 → M 82 (100 + 2 * k) = ((T.2.2.2.2.1 k : Nat) : Int) ∧ M 82 (101 + 2 * k) = ((T.2.2.2.2.2 k : Nat) : Int)
def tdO (T : TT) : Prop := T.1 ≤ 7 ∧ T.2.2.2.1 ≤ 12 ∧ (∀ p, p < T.1 → T.2.1 p < 5 ∧ kOkL (T.2.2.1 p)) ∧ ∀ k, k < T.2.2.2.1 → T.2.2.2.2.1 k < T.1 ∧ T.2.2.2.2.2 k < T.1 ∧ T.2.2.2.2.1 k ≠ T.2.2.2.2.2 k
def exC (cl : Nat × List Nat) (T : TT) : TT :=
  if cl.1 = 5 then (0, T.2.1, T.2.2.1, 0, T.2.2.2.2.1, T.2.2.2.2.2)
  else if cl.1 = 6 then (T.1, T.2.1, T.2.2.1, T.2.2.2.1 + 1, upH T.2.2.2.2.1 T.2.2.2.1 (cl.2.getD 0 0), upH T.2.2.2.2.2 T.2.2.2.1 (cl.2.getD 1 0))
  else (T.1 + 1, upH T.2.1 T.1 cl.1, kUp T.2.2.1 T.1 (cl.2.map (fun v : Nat => (v : Int))), T.2.2.2.1, T.2.2.2.2.1, T.2.2.2.2.2)
theorem upH_same (H : Nat → Nat) (x v : Nat) : upH H x v x = v := by simp [upH]
theorem upH_off (H : Nat → Nat) {x y : Nat} (v : Nat) (h : y ≠ x) : upH H x v y = H y := by simp [upH, h]
/-- by cases: what a clause that can stand is -/
theorem rdC_cases {tx : Nat → Nat} {l s pe pa : Nat} (hs : s ≤ l) (h : (rdC tx l s pe pa).1 = true) : (rdC tx l s pe pa = (true, nS tx l (nE tx l s), 0, 0, 5, []) ∧ wdI tx l s = 5) ∨ (∃ a b, wdI tx l s = 6 ∧ pa < 12 ∧ vlO tx l (nS tx l (nE tx l s)) = some a ∧ a < pe ∧ vlO tx l (nS tx l (nE tx l (nS tx l (nE tx l s)))) = some b ∧ b < pe ∧ b ≠ a ∧ rdC tx l s pe pa = (true, nS tx l (nE tx l (nS tx l (nE tx l (nS tx l (nE tx l s))))), pe, pa + 1, 6, [a, b])) ∨ (∃ j, j < 5 ∧ wdI tx l s = ((j : Nat) : Int) ∧ pe < 7 ∧ (rdW tx l 3 (nS tx l (nE tx l s))).1 = true ∧ rdC tx l s pe pa = (true, (rdW tx l 3 (nS tx l (nE tx l s))).2.1, pe + 1, pa, j, (rdW tx l 3 (nS tx l (nE tx l s))).2.2)) := by
  rcases wdI_cases tx l s with hw | ⟨j, hj, hw⟩
  · unfold rdC at h
    rw [if_pos hw] at h
    cases h
  · have n1 : ¬ (wdI tx l s = -1) := by rw [hw]; omega
    by_cases h5 : j = 5
    · left
      subst h5
      refine ⟨?_, hw⟩
      unfold rdC
      rw [if_neg n1, if_pos (show wdI tx l s = 5 from hw)]
    · have n5 : ¬ (wdI tx l s = 5) := by rw [hw]; omega
      by_cases h6 : j = 6
      · right; left
        subst h6
        have p6 : wdI tx l s = 6 := hw
        unfold rdC at h ⊢
        rw [if_neg n1, if_neg n5, if_pos p6] at h ⊢
        by_cases c4 : 12 ≤ pa
        · rw [if_pos c4] at h; cases h
        rw [if_neg c4] at h ⊢
        cases h1 : vlO tx l (nS tx l (nE tx l s)) with
        | none => rw [h1] at h; cases h
        | some a =>
          rw [h1] at h
          simp only at h ⊢
          by_cases c5 : a < pe
          · rw [if_pos c5] at h ⊢
            cases h2 : vlO tx l (nS tx l (nE tx l (nS tx l (nE tx l s)))) with
            | none => rw [h2] at h; cases h
            | some b =>
              rw [h2] at h
              simp only at h ⊢
              by_cases c6 : b < pe ∧ b ≠ a
              · rw [if_pos c6]
                exact ⟨a, b, p6, by omega, rfl, c5, rfl, c6.1, c6.2, rfl⟩
              · rw [if_neg c6] at h; cases h
          · rw [if_neg c5] at h; cases h
      · right; right
        have n6 : ¬ (wdI tx l s = 6) := by rw [hw]; omega
        unfold rdC at h ⊢
        rw [if_neg n1, if_neg n5, if_neg n6] at h ⊢
        by_cases c4 : 7 ≤ pe
        · rw [if_pos c4] at h; cases h
        · rw [if_neg c4] at h ⊢
          simp only at h
          refine ⟨j, by omega, hw, by omega, h, ?_⟩
          rw [h, hw]
          rfl
theorem exC_ok {tx : Nat → Nat} {l s : Nat} {T : TT} (hs : s ≤ l) (hT : tdO T) (h : (rdC tx l s T.1 T.2.2.2.1).1 = true) : tdO (exC (rdC tx l s T.1 T.2.2.2.1).2.2.2.2 T) ∧ (exC (rdC tx l s T.1 T.2.2.2.1).2.2.2.2 T).1 = (rdC tx l s T.1 T.2.2.2.1).2.2.1 ∧ (exC (rdC tx l s T.1 T.2.2.2.1).2.2.2.2 T).2.2.2.1 = (rdC tx l s T.1 T.2.2.2.1).2.2.2.1 := by
  obtain ⟨t1, t2, t3, t4⟩ := hT
  have hE := nE_le (tx := tx) hs
  have hS := nS_le (tx := tx) hE.2.1
  rcases rdC_cases hs h with ⟨e, _⟩ | ⟨a, b, _, c1, _, c2, _, c3, c4, e⟩ | ⟨j, j1, _, c1, c2, e⟩
  · rw [e]
    unfold exC
    rw [if_pos rfl]
    exact ⟨⟨Nat.zero_le _, Nat.zero_le _, fun p hp => absurd hp (Nat.not_lt_zero p), fun k hk => absurd hk (Nat.not_lt_zero k)⟩, rfl, rfl⟩
  · rw [e]
    unfold exC
    rw [if_neg (by simp), if_pos rfl]
    refine ⟨⟨t1, by simp only; omega, t3, fun k hk => ?_⟩, rfl, rfl⟩
    simp only at hk ⊢
    by_cases hkc : k = T.2.2.2.1
    · subst hkc
      rw [upH_same, upH_same]
      exact ⟨c2, c3, fun q => c4 q.symm⟩
    · rw [upH_off _ _ hkc, upH_off _ _ hkc]
      exact t4 k (by omega)
  · have hW := rdW_le tx l 3 (nS tx l (nE tx l s)) hS.2
    rw [e]
    unfold exC
    rw [if_neg (by simp only; omega), if_neg (by simp only; omega)]
    refine ⟨⟨by simp only; omega, t2, fun p hp => ?_, fun k hk => ?_⟩, rfl, rfl⟩
    · simp only at hp ⊢
      by_cases hpn : p = T.1
      · subst hpn
        rw [upH_same, kUp_same]
        refine ⟨j1, by rw [List.length_map]; exact hW.2.1, fun x hx => ?_⟩
        rw [List.mem_map] at hx
        obtain ⟨v, v1, rfl⟩ := hx
        have := hW.2.2 v v1
        omega
      · rw [upH_off _ _ hpn, kUp_off _ _ hpn]
        exact t3 p (by omega)
    · obtain ⟨x1, x2, x3⟩ := t4 k hk
      exact ⟨by simp only; omega, by simp only; omega, x3⟩
theorem txtM_fr {M M' : gM} {tx : Nat → Nat} {l : Nat} (h : txtM M tx l) (e : ∀ q i, (q = 81 ∧ i = 4) ∨ (q = 84 ∧ i < 200) → M' q i = M q i) : txtM M' tx l := by
  obtain ⟨t1, t2, t3⟩ := h
  exact ⟨t1, (e _ _ (by omega)).trans t2, fun j hj => ⟨(e _ _ (by omega)).trans (t3 j hj).1, (t3 j hj).2⟩⟩
/-- the numbers of a person -/
theorem l_mw17 (N d : Nat) (tx : Nat → Nat) (l : Nat) (x1 : Int) (hN : 2000 ≤ N) : ∀ (r m s z : Nat) (M : gM), m + r = 3 → r < z → s ≤ l → txtM M tx l → tokM M tx l s → ∃ M', ((rdW tx l r s).1 = false → L_X10_readsPerson_17 (gEv N (d + 4)) z x1 (m : Int) M = some (M', some (.inl 0))) ∧ ((rdW tx l r s).1 = true → ∃ z', z ≤ z' + r + 1 ∧ L_X10_readsPerson_17 (gEv N (d + 4)) z x1 (m : Int) M = L_X10_readsPerson_67 (gEv N (d + 4)) z' x1 ((m + (rdW tx l r s).2.2.length : Nat) : Int) M' ∧ tokM M' tx l (rdW tx l r s).2.1 ∧ ∀ i, i < (rdW tx l r s).2.2.length → M' 91 (m + i) = (((rdW tx l r s).2.2.getD i 0 : Nat) : Int)) ∧ M' 81 12 = (((rdW tx l r s).2.1 : Nat) : Int) ∧ (∀ i, i < m → M' 91 i = M 91 i) ∧ ∀ q i, ¬ (q = 91 ∨ (q = 81 ∧ 12 ≤ i ∧ i ≤ 13)) → M' q i = M q i := by
  intro r
  induction r with
  | zero =>
    intro m s z M hm hz hs hT hK
    obtain ⟨z, rfl⟩ : ∃ y, z = y + 1 := ⟨z - 1, by omega⟩
    refine ⟨M, fun h => (by cases h), fun _ => ⟨z, by omega, ?_, hK, fun i hi => absurd hi (Nat.not_lt_zero i)⟩, hK.1, fun _ _ => rfl, fun _ _ _ => rfl⟩
    rw [q_X10_readsPerson_17, gLt_f (by omega) (by omega) (by omega), cond_false]
    rfl
  | succ r ih =>
    intro m s z M hm hz hs hT hK
    obtain ⟨z, rfl⟩ : ∃ y, z = y + 1 := ⟨z - 1, by omega⟩
    obtain ⟨k12, k13⟩ := id hK
    obtain ⟨t1, t2, t3⟩ := id hT
    have hE := nE_le (tx := tx) hs
    have hS := nS_le (tx := tx) hE.2.1
    have hq := srt_lt (tx s)
    have e := q_X10_readsPerson_17 (gEv N (d + 4)) z x1 (m : Int) M
    rw [gLt_t (by omega) (by omega) (by omega), cond_true, k12, t2] at e
    simp only [rdW]
    by_cases hsl : s < l
    · obtain ⟨t4, t5⟩ := t3 s hsl
      rw [gLt_t (by omega) (by omega) (by omega), cond_true, gIx_e (x := (s : Int)) (n := s) rfl (by omega), t4, s_isDigit N (d + 2) (tx s) M t5, gCi_some, bI_eq0, gInb_t (by omega) (by omega) (by omega), gIf_t] at e
      by_cases hd : srt (tx s) = 1
      · rw [if_pos ⟨hsl, hd⟩]
        rw [decide_eq_true hd, Bool.not_true, cond_false] at e
        obtain ⟨n1, n2⟩ := s_mnumber N d tx l s m 1 99 M hN hT hs hK (by omega) (rng_c (by omega) (by omega)) (rng_c (by omega) (by omega))
        cases hv : vlO tx l s with
        | none =>
          rw [n2 (fun v h => by rw [hv] at h; cases h), gCi_some, gEq_refl, cond_true, gB01_0, gIf_t] at e
          exact ⟨M, fun _ => e, fun h => (by cases h), k12, fun _ _ => rfl, fun _ _ _ => rfl⟩
        | some v =>
          simp only
          have hvb := vlO_bd hv
          by_cases h1 : 1 ≤ v
          · rw [if_pos h1]
            obtain ⟨M1, g1, g2, g3, g4⟩ := n1 v hv (by omega) (by omega)
            rw [g1, gCi_some, gEq_f (by decide) (by decide) (by decide) (by decide) (by decide), cond_false, cast_1 m] at e
            obtain ⟨M2, j1, j2, j3, j4, j5⟩ := ih (m + 1) (nS tx l (nE tx l s)) z M1 (by omega) (by omega) hS.2 (txtM_fr hT (fun q i hq => g4 q i (by omega))) g3
            refine ⟨M2, fun h => e.trans (j1 h), fun h => ?_, j3, fun i hi => (j4 i (by omega)).trans (g4 _ _ (by omega)), fun q i hq => (j5 q i hq).trans (g4 q i (by omega))⟩
            obtain ⟨z', x0, x1', x2, x3⟩ := j2 h
            refine ⟨z', by omega, ?_, x2, fun i hi => ?_⟩
            · rw [e, x1']
              simp only [List.length_cons]
              congr 2
              omega
            · match i with
              | 0 =>
                rw [Nat.add_zero, j4 m (by omega), g2]
                rfl
              | i + 1 =>
                simp only [List.length_cons] at hi
                rw [show m + (i + 1) = m + 1 + i by omega, x3 i (by omega)]
                rfl
          · rw [if_neg h1]
            rw [n2 (fun w h => by rw [hv] at h; cases h; omega), gCi_some, gEq_refl, cond_true, gB01_0, gIf_t] at e
            exact ⟨M, fun _ => e, fun h => (by cases h), k12, fun _ _ => rfl, fun _ _ _ => rfl⟩
      · rw [if_neg (fun w => hd w.2)]
        rw [decide_eq_false hd, Bool.not_false, cond_true] at e
        exact ⟨M, fun h => (by cases h), fun _ => ⟨z, by omega, e, hK, fun i hi => absurd hi (Nat.not_lt_zero i)⟩, k12, fun _ _ => rfl, fun _ _ _ => rfl⟩
    · rw [if_neg (fun w => hsl w.1)]
      rw [gLt_f (by omega) (by omega) (by omega), cond_false] at e
      exact ⟨M, fun h => (by cases h), fun _ => ⟨z, by omega, e, hK, fun i hi => absurd hi (Nat.not_lt_zero i)⟩, k12, fun _ _ => rfl, fun _ _ _ => rfl⟩
theorem l_mw102 (C : gCl) (pe m : Nat) (x1 : Int) (M0 : gM) (hpe : pe < 7) (hm : m ≤ 3) (h14 : M0 81 14 = (pe : Int)) (h91 : M0 82 91 = (pe : Int)) : ∀ (r k z : Nat) (M : gM), k + r = 3 → r < z → (∀ q i, ¬ (q = 82 ∧ 62 + 3 * pe ≤ i ∧ i < 62 + 3 * pe + 3) → M q i = M0 q i) → (∀ i, i < k → i < m → M 82 (62 + 3 * pe + i) = M0 91 i) → ∃ M', L_X10_readsPerson_102 C z x1 (m : Int) (k : Int) M = some (M', some (.inl 1)) ∧ (∀ i, i < m → M' 82 (62 + 3 * pe + i) = M0 91 i) ∧ M' 82 91 = ((pe + 1 : Nat) : Int) ∧ M' 81 14 = ((pe + 1 : Nat) : Int) ∧ ∀ q i, ¬ ((q = 82 ∧ 62 + 3 * pe ≤ i ∧ i < 62 + 3 * pe + 3) ∨ (q = 82 ∧ i = 91) ∨ (q = 81 ∧ i = 14)) → M' q i = M0 q i := by
  have i91 := gIx_e (x := 91) (n := 91) rfl (by omega)
  intro r
  induction r with
  | zero =>
    intro k z M hk hz hf h
    obtain ⟨z, rfl⟩ : ∃ y, z = y + 1 := ⟨z - 1, by omega⟩
    have e := q_X10_readsPerson_102 C z x1 (m : Int) (k : Int) M
    rw [gLt_f (by omega) (by omega) (by omega), cond_false, i91, hf 82 91 (by omega), h91, cast_1 pe, gInb_t (by omega) (by omega) (by omega), gIf_t, gIf_t, gB01_1, gIf_t, gU_off _ _ (show ¬ (81 = 82 ∧ 14 = 91) by omega), hf 81 14 (by omega), h14, cast_1 pe] at e
    refine ⟨_, e, fun i hi => ?_, ?_, gU_same _ _ _ _, fun q i hq => ?_⟩
    · rw [gU_off _ _ (by omega), gU_off _ _ (by omega)]
      exact h i (by omega) hi
    · rw [gU_off _ _ (by omega), gU_same]
    · rw [gU_off _ _ (by omega), gU_off _ _ (by omega)]
      exact hf q i (by omega)
  | succ r ih =>
    intro k z M hk hz hf h
    obtain ⟨z, rfl⟩ : ∃ y, z = y + 1 := ⟨z - 1, by omega⟩
    have e := q_X10_readsPerson_102 C z x1 (m : Int) (k : Int) M
    rw [hf 81 14 (by omega), h14, gIx_e (x := 62 + 3 * (pe : Int) + (k : Int)) (n := 62 + 3 * pe + k) (by omega) (by omega), gIx_e (x := (k : Int)) (n := k) rfl (by omega), cast_1 k, gLt_t (x := (k : Int)) (y := 3) (by omega) (by omega) (by omega), cond_true, hf 91 k (by omega)] at e
    by_cases hkm : k < m
    · rw [gLt_t (by omega) (by omega) (by omega), cond_true, gInb_t (x := (k : Int)) (by omega) (by omega) (by omega), gIf_t, gInb_t (by omega) (by omega) (by omega), gIf_t] at e
      obtain ⟨M', g1, g2⟩ := ih (k + 1) z (gU M 82 (62 + 3 * pe + k) (M0 91 k)) (by omega) (by omega) (fun q i hq => (gU_off _ _ (by omega)).trans (hf q i hq)) (fun i h1 h2 => by
        by_cases hik : i = k
        · subst hik; rw [gU_same]
        · rw [gU_off _ _ (by omega)]; exact h i (by omega) h2)
      exact ⟨M', e.trans g1, g2⟩
    · rw [gLt_f (by omega) (by omega) (by omega), cond_false, gInb_t (by omega) (by omega) (by omega), gIf_t] at e
      obtain ⟨M', g1, g2⟩ := ih (k + 1) z (gU M 82 (62 + 3 * pe + k) 0) (by omega) (by omega) (fun q i hq => (gU_off _ _ (by omega)).trans (hf q i hq)) (fun i h1 h2 => by
        rw [gU_off _ _ (by omega)]; exact h i (by omega) h2)
      exact ⟨M', e.trans g1, g2⟩
theorem tdM_fr {M M' : gM} {T : TT} (h : tdM M T) (hT : tdO T) (e : ∀ i, 62 ≤ i → i < 124 → M' 82 i = M 82 i) : tdM M' T := by
  obtain ⟨d1, d2, d3, d4, d5⟩ := h
  obtain ⟨t1, t2, t3, t4⟩ := hT
  refine ⟨(e _ (by omega) (by omega)).trans d1, fun p hp => (e _ (by omega) (by omega)).trans (d2 p hp), kH_fr d3 (fun p hp => (t3 p hp).2) t1 (fun i h1 h2 => e i (by omega) (by omega)), (e _ (by omega) (by omega)).trans d4, fun k hk => ?_⟩
  exact ⟨(e _ (by omega) (by omega)).trans (d5 k hk).1, (e _ (by omega) (by omega)).trans (d5 k hk).2⟩
/-- the frame of a clause of the model -/
def mcF (M M' : gM) : Prop := ∀ q i, ¬ (q = 91 ∨ (q = 82 ∧ 62 ≤ i ∧ i < 124) ∨ (q = 81 ∧ 12 ≤ i ∧ i ≤ 15)) → M' q i = M q i
theorem s_mperson (N d : Nat) (tx : Nat → Nat) (l s j pe : Nat) (b : Bool) (T : TT) (M : gM) (hN : 2000 ≤ N) (hj : j < 5) (hs : s ≤ l) (hT : txtM M tx l) (hK : tokM M tx l s) (h14 : M 81 14 = (pe : Int)) (h17 : M 81 17 = bI b) (hpe : pe < 7) (hb : b = true → tdM M T ∧ tdO T ∧ T.1 = pe) : ∃ M', gEv N (d + 5) 108 [.inr (.inr 82), .inl (j : Int)] M = some (M', some (.inl (bI (rdW tx l 3 (nS tx l (nE tx l s))).1))) ∧ M' 81 12 = (((rdW tx l 3 (nS tx l (nE tx l s))).2.1 : Nat) : Int) ∧ ((rdW tx l 3 (nS tx l (nE tx l s))).1 = true → tokM M' tx l (rdW tx l 3 (nS tx l (nE tx l s))).2.1 ∧ M' 81 14 = ((pe + 1 : Nat) : Int) ∧ (b = true → tdM M' (exC (j, (rdW tx l 3 (nS tx l (nE tx l s))).2.2) T))) ∧ M' 81 15 = M 81 15 ∧ (b = false → ∀ i, M' 82 i = M 82 i) ∧ mcF M M' := by
  have hE := nE_le (tx := tx) hs
  have hS := nS_le (tx := tx) hE.2.1
  have hW := rdW_le tx l 3 (nS tx l (nE tx l s)) hS.2
  have e := q_X10_readsPerson N (d + 4) (j : Int) M
  obtain ⟨M1, g1, g2, g3⟩ := s_nextTok N (d + 1) tx l (nE tx l s) M hN hT hE.2.1 hK.2
  have hT1 : txtM M1 tx l := txtM_fr hT (fun q i hq => g3 q i (by omega))
  rw [h14, gEq_f (by omega) (by omega) (by omega) (by omega) (by omega), cond_false, g1, gCv_some] at e
  obtain ⟨M2, r1, r2, r3, _, r5⟩ := l_mw17 N d tx l (j : Int) hN 3 0 (nS tx l (nE tx l s)) N M1 (by omega) (by omega) hS.2 hT1 g2
  generalize hR : rdW tx l 3 (nS tx l (nE tx l s)) = R at *
  have f2 : ∀ q i, ¬ (q = 91 ∨ (q = 81 ∧ 12 ≤ i ∧ i ≤ 13)) → M2 q i = M q i := fun q i hq => (r5 q i (by omega)).trans (g3 q i (by omega))
  by_cases hok : R.1 = true
  · obtain ⟨z', x0, x1, x2, x3⟩ := r2 hok
    obtain ⟨z, rfl⟩ : ∃ y, z' = y + 1 := ⟨z' - 1, by omega⟩
    have e2 := q_X10_readsPerson_67 (gEv N (d + 4)) z (j : Int) (((0 + R.2.2.length : Nat) : Nat) : Int) M2
    rw [Nat.zero_add] at e2 x1
    have e3 := (e.trans x1).trans e2
    rw [f2 81 17 (by omega), h17, bI_eq0, f2 81 14 (by omega), h14, cast_1 pe] at e3
    rw [hok]
    cases b with
    | false =>
      rw [Bool.not_false, cond_true, gB01_1, gIf_t] at e3
      refine ⟨_, e3, (gU_off _ _ (by omega)).trans r3, fun _ => ⟨⟨(gU_off _ _ (by omega)).trans x2.1, (gU_off _ _ (by omega)).trans x2.2⟩, gU_same _ _ _ _, fun h => (by cases h)⟩, (gU_off _ _ (by omega)).trans (f2 _ _ (by omega)), fun _ i => (gU_off _ _ (by omega)).trans (f2 _ _ (by omega)), fun q i hq => (gU_off _ _ (by omega)).trans (f2 _ _ (by omega))⟩
    | true =>
      obtain ⟨hd, hO, hTn⟩ := hb rfl
      obtain ⟨d1, d2, ⟨d3, d3'⟩, d4, d5⟩ := id hd
      obtain ⟨t1, t2, t3, t4⟩ := id hO
      rw [Bool.not_true, cond_false, gInb_t (by omega) (by omega) (by omega), gIf_t, gIx_e (x := 92 + (pe : Int)) (n := 92 + pe) (by omega) (by omega), gU_off _ _ (show ¬ (81 = 82 ∧ 14 = 92 + pe) by omega), f2 81 14 (by omega), h14, gInb_t (by omega) (by omega) (by omega), gIf_t, gIx_e (x := 83 + (pe : Int)) (n := 83 + pe) (by omega) (by omega)] at e3
      have f3 : ∀ q i, ¬ (q = 82 ∧ (i = 92 + pe ∨ i = 83 + pe)) → gU (gU M2 82 (92 + pe) (j : Int)) 82 (83 + pe) ((R.2.2.length : Nat) : Int) q i = M2 q i := fun q i hq => by rw [gU_off _ _ (by omega), gU_off _ _ (by omega)]
      have w1 : gU (gU M2 82 (92 + pe) (j : Int)) 82 (83 + pe) ((R.2.2.length : Nat) : Int) 82 (92 + pe) = (j : Int) := by rw [gU_off _ _ (by omega), gU_same]
      have w2 : gU (gU M2 82 (92 + pe) (j : Int)) 82 (83 + pe) ((R.2.2.length : Nat) : Int) 82 (83 + pe) = ((R.2.2.length : Nat) : Int) := gU_same _ _ _ _
      generalize gU (gU M2 82 (92 + pe) (j : Int)) 82 (83 + pe) ((R.2.2.length : Nat) : Int) = M3 at e3 f3 w1 w2
      obtain ⟨M4, y1, y2, y3, y4, y5⟩ := l_mw102 (gEv N (d + 4)) pe R.2.2.length (j : Int) M3 hpe hW.2.1 (by rw [f3 _ _ (by omega), f2 _ _ (by omega), h14]) (by rw [f3 _ _ (by omega), f2 _ _ (by omega), d1, hTn]) 3 0 z M3 (by omega) (by omega) (fun _ _ _ => rfl) (fun i hi => absurd hi (Nat.not_lt_zero i))
      have f4 : ∀ q i, ¬ (q = 91 ∨ (q = 81 ∧ 12 ≤ i ∧ i ≤ 14) ∨ (q = 82 ∧ (i = 91 ∨ i = 92 + pe ∨ i = 83 + pe ∨ (62 + 3 * pe ≤ i ∧ i < 62 + 3 * pe + 3)))) → M4 q i = M q i := fun q i hq => (y5 q i (by omega)).trans ((f3 q i (by omega)).trans (f2 q i (by omega)))
      refine ⟨M4, e3.trans y1, ?_, fun _ => ⟨⟨?_, ?_⟩, y4, fun _ => ?_⟩, f4 _ _ (by omega), fun h => (by cases h), fun q i hq => f4 q i (by omega)⟩
      · rw [y5 _ _ (by omega), f3 _ _ (by omega), r3]
      · rw [y5 _ _ (by omega), f3 _ _ (by omega), x2.1]
      · rw [y5 _ _ (by omega), f3 _ _ (by omega), x2.2]
      · unfold exC
        rw [if_neg (show ¬ ((j, R.2.2) : Nat × List Nat).1 = 5 by simp only; omega), if_neg (show ¬ ((j, R.2.2) : Nat × List Nat).1 = 6 by simp only; omega)]
        refine ⟨?_, fun p hp => ?_, ⟨?_, fun p hp => ?_⟩, ?_, fun k hk => ?_⟩
        · simp only
          rw [hTn, y3]
        · simp only at hp ⊢
          by_cases hpn : p = T.1
          · subst hpn
            rw [upH_same, hTn, y5 _ _ (by omega), w1]
          · rw [upH_off _ _ hpn, f4 _ _ (by omega)]
            exact d2 p (by omega)
        · rw [f4 _ _ (by omega)]
          exact d3
        · simp only at hp ⊢
          by_cases hpn : p = T.1
          · subst hpn
            rw [kUp_same, List.length_map]
            refine ⟨?_, fun i hi => ?_⟩
            · rw [hTn, show 62 + 21 + pe = 83 + pe by omega, y5 _ _ (by omega), w2]
            · rw [List.length_map] at hi
              rw [hTn, y2 i hi, f3 _ _ (by omega), show i = 0 + i by omega, x3 i hi, Nat.zero_add]
              simp [List.getD_eq_getElem?_getD, hi]
          · rw [kUp_off _ _ hpn]
            obtain ⟨q1, q2⟩ := d3' p (by omega)
            have ql := (t3 p (by omega)).2.1
            refine ⟨by rw [f4 _ _ (by omega)]; exact q1, fun i hi => by rw [f4 _ _ (by omega)]; exact q2 i hi⟩
        · rw [f4 _ _ (by omega)]
          exact d4
        · simp only at hk ⊢
          obtain ⟨q1, q2⟩ := d5 k hk
          refine ⟨by rw [f4 _ _ (by omega)]; exact q1, by rw [f4 _ _ (by omega)]; exact q2⟩
  · have hf : R.1 = false := by cases h : R.1 <;> simp_all
    rw [hf]
    exact ⟨M2, e.trans (r1 hf), r3, fun h => (by cases h), f2 _ _ (by omega), fun _ i => f2 _ _ (by omega), fun q i hq => f2 q i (by omega)⟩
