-- 74: the model's orders
theorem s_change (N d a b : Nat) (M : gM) (ha : a < 7) (hb : b < 7) : gEv N (d + 1) 147 [.inr (.inr 82), .inl (a : Int), .inl (b : Int)] M = some (gU (gU M 99 a (M 99 b)) 99 b (M 99 a), none) := by
  rw [q_X10_change, gIx_e (x := (a : Int)) (n := a) rfl (by omega), gIx_e (x := (b : Int)) (n := b) rfl (by omega)]
  simp (disch := omega) only [gInb_t, gLt_t, gLt_f, gEq_t, gEq_f, gIx_nat, gIx_id, gIf, cond_true, cond_false, gCi_some, gCv_some, gCr_some, gB01_0, gB01_1, gBi_01, gU_same, gU_off, gW_id, Int.toNat_natCast, Int.toNat_add, Int.toNat_mul, Int.reduceToNat, Nat.add_zero, Int.add_zero]
theorem nk_bd (f : Nat → Nat) : ∀ (j k : Nat), nk f j = some k → k < j ∧ ¬ (f (k + 1) < f k)
  | 0, k, h => by cases h
  | j + 1, k, h => by
    simp only [nk] at h
    by_cases hc : f (j + 1) < f j
    · rw [if_pos hc] at h
      have := nk_bd f j k h
      exact ⟨by omega, this.2⟩
    · rw [if_neg hc] at h
      cases h
      exact ⟨by omega, hc⟩
theorem l_n12 (C : gCl) (n : Nat) (f : Nat → Nat) (M : gM) (hn : n ≤ 7) (hM : ∀ i, i < n → M 99 i = ((f i : Nat) : Int)) (hf : ∀ i, i < n → f i < 7) : ∀ (j z : Nat), j + 1 ≤ n → j < z → (nk f j = none → L_X10_nextOrder_12 C z (n : Int) ((j : Int) - 1) M = some (M, some (.inl 0))) ∧ (∀ k, nk f j = some k → ∃ z', z ≤ z' + j + 1 ∧ L_X10_nextOrder_12 C z (n : Int) ((j : Int) - 1) M = L_X10_nextOrder_49 C z' (n : Int) (k : Int) ((n : Int) - 1) M) := by
  intro j
  induction j with
  | zero =>
    intro z hj hz
    obtain ⟨z, rfl⟩ : ∃ y, z = y + 1 := ⟨z - 1, by omega⟩
    refine ⟨fun _ => ?_, fun k h => (by cases h)⟩
    rw [q_X10_nextOrder_12]
    simp (disch := omega) only [gInb_t, gLt_t, gLt_f, gEq_t, gEq_f, gIx_nat, gIx_id, gIf, cond_true, cond_false, gCi_some, gCv_some, gCr_some, gB01_0, gB01_1, gBi_01, gU_same, gU_off, gW_id, Int.toNat_natCast, Int.toNat_add, Int.toNat_mul, Int.reduceToNat, Nat.add_zero, Int.add_zero]
  | succ j ih =>
    intro z hj hz
    obtain ⟨z, rfl⟩ : ∃ y, z = y + 1 := ⟨z - 1, by omega⟩
    obtain ⟨i1, i2⟩ := ih z (by omega) (by omega)
    have f1 := hf j (by omega)
    have f2 := hf (j + 1) (by omega)
    have e : L_X10_nextOrder_12 C (z + 1) (n : Int) (((j + 1 : Nat) : Int) - 1) M = cond (decide (f (j + 1) < f j)) (L_X10_nextOrder_12 C z (n : Int) ((j : Int) - 1) M) (L_X10_nextOrder_49 C z (n : Int) (j : Int) ((n : Int) - 1) M) := by
      rw [q_X10_nextOrder_12, show ((j + 1 : Nat) : Int) - 1 = (j : Int) by omega, gIx_e (x := (j : Int)) (n := j) rfl (by omega), gIx_e (x := (j : Int) + 1) (n := j + 1) (by omega) (by omega), hM j (by omega), hM (j + 1) (by omega), show (j : Int) + (-1) = (j : Int) - 1 by omega]
      by_cases h : f (j + 1) < f j
      · rw [decide_eq_true h]; simp (disch := omega) only [gInb_t, gLt_t, gLt_f, gEq_t, gEq_f, gIx_nat, gIx_id, gIf, cond_true, cond_false, gCi_some, gCv_some, gCr_some, gB01_0, gB01_1, gBi_01, gU_same, gU_off, gW_id, Int.toNat_natCast, Int.toNat_add, Int.toNat_mul, Int.reduceToNat, Nat.add_zero, Int.add_zero]
      · rw [decide_eq_false h]; simp (disch := omega) only [gInb_t, gLt_t, gLt_f, gEq_t, gEq_f, gIx_nat, gIx_id, gIf, cond_true, cond_false, gCi_some, gCv_some, gCr_some, gB01_0, gB01_1, gBi_01, gU_same, gU_off, gW_id, Int.toNat_natCast, Int.toNat_add, Int.toNat_mul, Int.reduceToNat, Nat.add_zero, Int.add_zero]
    rw [e]
    simp only [nk]
    by_cases h : f (j + 1) < f j
    · rw [decide_eq_true h, if_pos h]
      refine ⟨fun q => i1 q, fun k q => ?_⟩
      obtain ⟨z', a1, a2⟩ := i2 k q
      exact ⟨z', by omega, a2⟩
    · rw [decide_eq_false h, if_neg h]
      refine ⟨fun q => (by cases q), fun k q => ?_⟩
      cases q
      exact ⟨z, by omega, rfl⟩
theorem l_n49 (N d n k : Nat) (f : Nat → Nat) (M : gM) (hn : n ≤ 7) (hM : ∀ i, i < n → M 99 i = ((f i : Nat) : Int)) (hf : ∀ i, i < n → f i < 7) (hk : k + 1 < n) (hk2 : ¬ (f (k + 1) < f k)) : ∀ (q z : Nat), k + 1 ≤ q → q < n → q < z → ∃ z', z ≤ z' + q + 1 ∧ k + 1 ≤ nq f (f k) (q + 1) ∧ nq f (f k) (q + 1) ≤ q ∧ L_X10_nextOrder_49 (gEv N (d + 1)) z (n : Int) (k : Int) (q : Int) M = L_X10_nextOrder_86 (gEv N (d + 1)) z' (n : Int) (k : Int) ((nq f (f k) (q + 1) : Nat) : Int) ((k + 1 : Nat) : Int) ((n - 1 : Nat) : Int) (gU (gU M 99 k (M 99 (nq f (f k) (q + 1)))) 99 (nq f (f k) (q + 1)) (M 99 k)) := by
  intro q
  induction q with
  | zero => intro z h1 h2; omega
  | succ q ih =>
    intro z h1 h2 hz
    obtain ⟨z, rfl⟩ : ∃ y, z = y + 1 := ⟨z - 1, by omega⟩
    have f1 := hf k (by omega)
    have f2 := hf (q + 1) (by omega)
    have ik := gIx_e (x := (k : Int)) (n := k) rfl (by omega)
    have iq := gIx_e (x := ((q + 1 : Nat) : Int)) (n := q + 1) rfl (by omega)
    have e0 : nq f (f k) (q + 1 + 1) = if f (q + 1) < f k then nq f (f k) (q + 1) else q + 1 := rfl
    rw [e0]
    by_cases h : f (q + 1) < f k
    · have hqk : q ≠ k := fun e => by subst e; exact hk2 h
      obtain ⟨z', a0, a1, a2, a3⟩ := ih z (by omega) (by omega) (by omega)
      rw [if_pos h]
      refine ⟨z', by omega, a1, by omega, ?_⟩
      rw [q_X10_nextOrder_49, ik, iq, hM k (by omega), hM (q + 1) (by omega), show ((q + 1 : Nat) : Int) + (-1) = (q : Int) by omega, a3, hM k (by omega)]
      simp (disch := omega) only [gInb_t, gLt_t, gLt_f, gEq_t, gEq_f, gIx_nat, gIx_id, gIf, cond_true, cond_false, gCi_some, gCv_some, gCr_some, gB01_0, gB01_1, gBi_01, gU_same, gU_off, gW_id, Int.toNat_natCast, Int.toNat_add, Int.toNat_mul, Int.reduceToNat, Nat.add_zero, Int.add_zero]
    · rw [if_neg h]
      refine ⟨z, by omega, by omega, by omega, ?_⟩
      rw [q_X10_nextOrder_49, ik, iq, s_change N d k (q + 1) M (by omega) (by omega), gCv_some, cast_1 k, show (n : Int) - 1 = ((n - 1 : Nat) : Int) by omega]
      generalize gU (gU M 99 k (M 99 (q + 1))) 99 (q + 1) (M 99 k) = M1
      rw [hM k (by omega), hM (q + 1) (by omega)]
      simp (disch := omega) only [gInb_t, gLt_t, gLt_f, gEq_t, gEq_f, gIx_nat, gIx_id, gIf, cond_true, cond_false, gCi_some, gCv_some, gCr_some, gB01_0, gB01_1, gBi_01, gU_same, gU_off, gW_id, Int.toNat_natCast, Int.toNat_add, Int.toNat_mul, Int.reduceToNat, Nat.add_zero, Int.add_zero]
theorem l_n86 (N d n : Nat) (x2 x3 : Int) (hn : n ≤ 7) : ∀ (m a b z : Nat) (M : gM) (f : Nat → Nat), b ≤ a + m → a ≤ 7 → b < 7 → m < z → (∀ i, i < n → M 99 i = ((f i : Nat) : Int)) → (n ≤ b → b ≤ a) → ∃ M', L_X10_nextOrder_86 (gEv N (d + 1)) z (n : Int) x2 x3 (a : Int) (b : Int) M = some (M', some (.inl 1)) ∧ (∀ i, i < n → M' 99 i = ((rv f a b m i : Nat) : Int)) ∧ ∀ q i, q ≠ 99 → M' q i = M q i := by
  intro m
  induction m with
  | zero =>
    intro a b z M f h1 h2 h3 hz hM hb
    obtain ⟨z, rfl⟩ : ∃ y, z = y + 1 := ⟨z - 1, by omega⟩
    refine ⟨M, ?_, hM, fun _ _ _ => rfl⟩
    rw [q_X10_nextOrder_86]
    simp (disch := omega) only [gInb_t, gLt_t, gLt_f, gEq_t, gEq_f, gIx_nat, gIx_id, gIf, cond_true, cond_false, gCi_some, gCv_some, gCr_some, gB01_0, gB01_1, gBi_01, gU_same, gU_off, gW_id, Int.toNat_natCast, Int.toNat_add, Int.toNat_mul, Int.reduceToNat, Nat.add_zero, Int.add_zero]
  | succ m ih =>
    intro a b z M f h1 h2 h3 hz hM hb
    obtain ⟨z, rfl⟩ : ∃ y, z = y + 1 := ⟨z - 1, by omega⟩
    by_cases h : a < b
    · obtain ⟨M', g1, g2, g3⟩ := ih (a + 1) (b - 1) z (gU (gU M 99 a (M 99 b)) 99 b (M 99 a)) (swp f a b) (by omega) (by omega) (by omega) (by omega) (fun i hi => by
        unfold swp
        by_cases e1 : i = b
        · subst e1
          rw [gU_same, if_pos rfl]
          exact hM a (by omega)
        · rw [gU_off _ _ (by omega), if_neg e1]
          by_cases e2 : i = a
          · subst e2
            rw [gU_same, if_pos rfl]
            exact hM b (by omega)
          · rw [gU_off _ _ (by omega), if_neg e2]
            exact hM i hi) (fun _ => by omega)
      refine ⟨M', ?_, fun i hi => ?_, fun q i hq => (g3 q i hq).trans ((gU_off _ _ (by omega)).trans (gU_off _ _ (by omega)))⟩
      · rw [q_X10_nextOrder_86, s_change N d a b M (by omega) (by omega), gCv_some, cast_1 a, show (b : Int) + (-1) = ((b - 1 : Nat) : Int) by omega, g1]
        simp (disch := omega) only [gInb_t, gLt_t, gLt_f, gEq_t, gEq_f, gIx_nat, gIx_id, gIf, cond_true, cond_false, gCi_some, gCv_some, gCr_some, gB01_0, gB01_1, gBi_01, gU_same, gU_off, gW_id, Int.toNat_natCast, Int.toNat_add, Int.toNat_mul, Int.reduceToNat, Nat.add_zero, Int.add_zero]
      · rw [g2 i hi]
        simp only [rv, if_pos h]
    · refine ⟨M, ?_, fun i hi => ?_, fun _ _ _ => rfl⟩
      · rw [q_X10_nextOrder_86]
        simp (disch := omega) only [gInb_t, gLt_t, gLt_f, gEq_t, gEq_f, gIx_nat, gIx_id, gIf, cond_true, cond_false, gCi_some, gCv_some, gCr_some, gB01_0, gB01_1, gBi_01, gU_same, gU_off, gW_id, Int.toNat_natCast, Int.toNat_add, Int.toNat_mul, Int.reduceToNat, Nat.add_zero, Int.add_zero]
      · simp only [rv, if_neg h]
        exact hM i hi
theorem getD_map (n : Nat) (g : Nat → Nat) (i : Nat) (hi : i < n) : ((List.range n).map g).getD i 0 = g i := by
  rw [List.getD_eq_getElem?_getD, List.getElem?_map, List.getElem?_range hi]
  rfl
theorem s_next (N d n : Nat) (l : List Nat) (M : gM) (hN : 100 ≤ N) (hn : n ≤ 7) (h29 : M 82 29 = (n : Int)) (hM : ∀ i, i < n → M 99 i = ((l.getD i 0 : Nat) : Int)) (hl : ∀ i, i < n → l.getD i 0 < 7) : ∃ M', gEv N (d + 2) 146 [.inr (.inr 82)] M = some (M', some (.inl (bI (nxL n l).isSome))) ∧ (∀ l', nxL n l = some l' → ∀ i, i < n → M' 99 i = ((l'.getD i 0 : Nat) : Int)) ∧ ∀ q i, q ≠ 99 → M' q i = M q i := by
  have e := q_X10_nextOrder N (d + 1) M
  rw [gIx_e (x := 29) (n := 29) rfl (by omega), h29, gInb_t (by omega) (by omega) (by omega), gIf_t] at e
  by_cases h0 : n = 0
  · subst h0
    refine ⟨M, e.trans ?_, fun l' h => (by cases h), fun _ _ _ => rfl⟩
    have : ∀ z, 1 ≤ z → L_X10_nextOrder_12 (gEv N (d + 1)) z ((0 : Nat) : Int) (((0 : Nat) : Int) - 2) M = some (M, some (.inl 0)) := fun z hz => by
      obtain ⟨z, rfl⟩ : ∃ y, z = y + 1 := ⟨z - 1, by omega⟩
      rw [q_X10_nextOrder_12]
      simp (disch := omega) only [gInb_t, gLt_t, gLt_f, gEq_t, gEq_f, gIx_nat, gIx_id, gIf, cond_true, cond_false, gCi_some, gCv_some, gCr_some, gB01_0, gB01_1, gBi_01, gU_same, gU_off, gW_id, Int.toNat_natCast, Int.toNat_add, Int.toNat_mul, Int.reduceToNat, Nat.add_zero, Int.add_zero]
    exact this N (by omega)
  · obtain ⟨i1, i2⟩ := l_n12 (gEv N (d + 1)) n (fun i => l.getD i 0) M hn hM hl (n - 1) N (by omega) (by omega)
    rw [show ((n - 1 : Nat) : Int) - 1 = (n : Int) - 2 by omega] at i1 i2
    cases hk : nk (fun i => l.getD i 0) (n - 1) with
    | none =>
      have hx : nxL n l = none := by unfold nxL nxF; rw [hk]; rfl
      rw [hx]
      exact ⟨M, e.trans (i1 hk), fun l' h => (by cases h), fun _ _ _ => rfl⟩
    | some k =>
      obtain ⟨k1, k2⟩ := nk_bd _ _ _ hk
      obtain ⟨z', a1, a2⟩ := i2 k hk
      obtain ⟨z2, b0, b1, b2, b3⟩ := l_n49 N d n k (fun i => l.getD i 0) M hn hM hl (by omega) k2 (n - 1) z' (by omega) (by omega) (by omega)
      rw [show n - 1 + 1 = n by omega] at b1 b2 b3
      rw [show ((n - 1 : Nat) : Int) = (n : Int) - 1 by omega] at b3
      generalize hq : nq (fun i => l.getD i 0) (l.getD k 0) n = q at b1 b2 b3
      obtain ⟨M', c1, c2, c3⟩ := l_n86 N d n (k : Int) (q : Int) hn 7 (k + 1) (n - 1) z2 (gU (gU M 99 k (M 99 q)) 99 q (M 99 k)) (swp (fun i => l.getD i 0) k q) (by omega) (by omega) (by omega) (by omega) (fun i hi => by
        unfold swp
        by_cases e1 : i = q
        · subst e1
          rw [gU_same, if_pos rfl]
          exact hM k (by omega)
        · rw [gU_off _ _ (by omega), if_neg e1]
          by_cases e2 : i = k
          · subst e2
            rw [gU_same, if_pos rfl]
            exact hM q (by omega)
          · rw [gU_off _ _ (by omega), if_neg e2]
            exact hM i hi) (fun h => by omega)
      have hx : nxL n l = some ((List.range n).map (rv (swp (fun i => l.getD i 0) k q) (k + 1) (n - 1) 7)) := by
        unfold nxL nxF
        rw [hk, ← hq]
        rfl
      rw [hx]
      refine ⟨M', ?_, fun l' h i hi => ?_, fun q i hq => (c3 q i hq).trans ((gU_off _ _ (by omega)).trans (gU_off _ _ (by omega)))⟩
      · refine (e.trans a2).trans ?_
        refine Eq.trans b3 ?_
        rw [show (n : Int) - 1 = ((n - 1 : Nat) : Int) by omega] at *
        exact c1
      · cases h
        rw [getD_map n _ i hi]
        exact c2 i hi
/-- places, and how many are broken -/
theorem posL_getD : ∀ (l : List Nat) (i : Nat), l.Nodup → i < l.length → posL l (l.getD i 0) = i
  | [], i, _, h => by simp at h
  | x :: r, 0, _, _ => by simp [posL]
  | x :: r, i + 1, hd, h => by
    rw [List.nodup_cons] at hd
    have hi : i < r.length := by simp at h; omega
    have hm : r.getD i 0 ∈ r := by
      rw [List.getD_eq_getElem?_getD, List.getElem?_eq_getElem hi]
      exact List.getElem_mem hi
    have hne : x ≠ r.getD i 0 := fun e => hd.1 (by rw [e]; exact hm)
    rw [List.getD_cons_succ]
    simp only [posL]
    rw [if_neg hne, posL_getD r i hd.2 hi]
theorem l_b2 (C : gCl) (n : Nat) (l : List Nat) (M0 : gM) (hn : n ≤ 7) (hl : l.length = n) (hd : l.Nodup) (h29 : M0 82 29 = (n : Int)) (hM : ∀ i, i < n → M0 99 i = ((l.getD i 0 : Nat) : Int)) (hf : ∀ i, i < n → l.getD i 0 < 7) : ∀ (r k z : Nat) (M : gM), k + r = n → r < z → (∀ q i, q ≠ 100 → M q i = M0 q i) → (∀ i, i < k → M 100 (l.getD i 0) = (i : Int)) → ∃ z' M', z ≤ z' + r + 1 ∧ L_X10_broken_2 C z (k : Int) M = L_X10_broken_35 C z' 0 0 M' ∧ (∀ q i, q ≠ 100 → M' q i = M0 q i) ∧ (∀ i, i < n → M' 100 (l.getD i 0) = (i : Int)) := by
  intro r
  induction r with
  | zero =>
    intro k z M hk hz h1 h2
    obtain ⟨z, rfl⟩ : ∃ y, z = y + 1 := ⟨z - 1, by omega⟩
    refine ⟨z, M, by omega, ?_, h1, fun i hi => h2 i (by omega)⟩
    rw [q_X10_broken_2, gIx_e (x := 29) (n := 29) rfl (by omega), h1 82 29 (by omega), h29]
    simp (disch := omega) only [gInb_t, gLt_t, gLt_f, gEq_t, gEq_f, gIx_nat, gIx_id, gIf, cond_true, cond_false, gCi_some, gCv_some, gCr_some, gB01_0, gB01_1, gBi_01, gU_same, gU_off, gW_id, Int.toNat_natCast, Int.toNat_add, Int.toNat_mul, Int.reduceToNat, Nat.add_zero, Int.add_zero]
  | succ r ih =>
    intro k z M hk hz h1 h2
    obtain ⟨z, rfl⟩ : ∃ y, z = y + 1 := ⟨z - 1, by omega⟩
    have f1 := hf k (by omega)
    obtain ⟨z', M', g0, g1, g2, g3⟩ := ih (k + 1) z (gU M 100 (l.getD k 0) (k : Int)) (by omega) (by omega) (fun q i hq => (gU_off _ _ (by omega)).trans (h1 q i hq)) (fun i hi => by
      by_cases hik : i = k
      · subst hik; rw [gU_same]
      · have : l.getD i 0 ≠ l.getD k 0 := fun e => by
          have p1 := posL_getD l i hd (by omega)
          have p2 := posL_getD l k hd (by omega)
          rw [e, p2] at p1
          omega
        rw [gU_off _ _ (by omega)]
        exact h2 i (by omega))
    refine ⟨z', M', by omega, ?_, g2, g3⟩
    rw [q_X10_broken_2, gIx_e (x := 29) (n := 29) rfl (by omega), h1 82 29 (by omega), h29, gIx_e (x := (k : Int)) (n := k) rfl (by omega), h1 99 k (by omega), hM k (by omega), gIx_e (x := ((l.getD k 0 : Nat) : Int)) (n := l.getD k 0) rfl (by omega), cast_1 k, g1]
    simp (disch := omega) only [gInb_t, gLt_t, gLt_f, gEq_t, gEq_f, gIx_nat, gIx_id, gIf, cond_true, cond_false, gCi_some, gCv_some, gCr_some, gB01_0, gB01_1, gBi_01, gU_same, gU_off, gW_id, Int.toNat_natCast, Int.toNat_add, Int.toNat_mul, Int.reduceToNat, Nat.add_zero, Int.add_zero]
theorem l_b35 (C : gCl) (c : Nat) (A B P : Nat → Nat) (M : gM) (hc : c ≤ 12) (h37 : M 82 37 = (c : Int)) (hA : ∀ k, k < c → A k < 7 ∧ B k < 7 ∧ M 82 (38 + 2 * k) = ((A k : Nat) : Int) ∧ M 82 (39 + 2 * k) = ((B k : Nat) : Int) ∧ M 100 (A k) = ((P (A k) : Nat) : Int) ∧ M 100 (B k) = ((P (B k) : Nat) : Int) ∧ P (A k) ≤ 7 ∧ P (B k) ≤ 7) : ∀ (r k z a : Nat), k + r = c → r < z → L_X10_broken_35 C z (a : Int) (k : Int) M = some (M, some (.inl ((a + cB (fun j => decide (P (B j) < P (A j))) k r : Nat) : Int))) := by
  intro r
  have hx : gIx 37 = 37 := gIx_e (n := 37) rfl (by omega)
  induction r with
  | zero =>
    intro k z a hk hz
    obtain ⟨z, rfl⟩ : ∃ y, z = y + 1 := ⟨z - 1, by omega⟩
    rw [q_X10_broken_35, hx, h37]
    simp (disch := omega) only [gInb_t, gLt_t, gLt_f, gEq_t, gEq_f, gIx_nat, gIx_id, gIf, cond_true, cond_false, gCi_some, gCv_some, gCr_some, gB01_0, gB01_1, gBi_01, gU_same, gU_off, gW_id, Int.toNat_natCast, Int.toNat_add, Int.toNat_mul, Int.reduceToNat, Nat.add_zero, Int.add_zero, cB]
  | succ r ih =>
    intro k z a hk hz
    obtain ⟨z, rfl⟩ : ∃ y, z = y + 1 := ⟨z - 1, by omega⟩
    obtain ⟨a1, a2, a3, a4, a5, a6, a7, a8⟩ := hA k (by omega)
    rw [q_X10_broken_35, hx, h37, gIx_e (x := 38 + 2 * (k : Int)) (n := 38 + 2 * k) (by omega) (by omega), gIx_e (x := 38 + 2 * (k : Int) + 1) (n := 39 + 2 * k) (by omega) (by omega), a3, a4, gIx_e (x := ((A k : Nat) : Int)) (n := A k) rfl (by omega), gIx_e (x := ((B k : Nat) : Int)) (n := B k) rfl (by omega), a5, a6, cast_1 k, cast_1 a, Int.add_zero, ih (k + 1) z _ (by omega) (by omega), ih (k + 1) z _ (by omega) (by omega)]
    simp only [cB]
    by_cases h : P (B k) < P (A k)
    · rw [decide_eq_true h]
      simp (disch := omega) only [gInb_t, gLt_t, gLt_f, gEq_t, gEq_f, gIx_nat, gIx_id, gIf, cond_true, cond_false, gCi_some, gCv_some, gCr_some, gB01_0, gB01_1, gBi_01, gU_same, gU_off, gW_id, Int.toNat_natCast, Int.toNat_add, Int.toNat_mul, Int.reduceToNat, Nat.add_zero, Int.add_zero]
      simp [Nat.add_assoc]
    · rw [decide_eq_false h]
      simp (disch := omega) only [gInb_t, gLt_t, gLt_f, gEq_t, gEq_f, gIx_nat, gIx_id, gIf, cond_true, cond_false, gCi_some, gCv_some, gCr_some, gB01_0, gB01_1, gBi_01, gU_same, gU_off, gW_id, Int.toNat_natCast, Int.toNat_add, Int.toNat_mul, Int.reduceToNat, Nat.add_zero, Int.add_zero]
      simp
theorem posL_lt : ∀ (l : List Nat) (a : Nat), posL l a ≤ l.length
  | [], _ => Nat.le_refl 0
  | x :: r, a => by
    have := posL_lt r a
    simp only [posL, List.length_cons]
    split <;> omega
/-- an order of all -/
theorem s_broken (N d n c : Nat) (A B : Nat → Nat) (l : List Nat) (M : gM) (hN : 100 ≤ N) (hn : n ≤ 7) (hc : c ≤ 12) (h29 : M 82 29 = (n : Int)) (h37 : M 82 37 = (c : Int)) (hA : ∀ k, k < c → A k < n ∧ B k < n ∧ A k ≠ B k ∧ M 82 (38 + 2 * k) = ((A k : Nat) : Int) ∧ M 82 (39 + 2 * k) = ((B k : Nat) : Int)) (hl : l ∈ plM n (2 ^ n - 1)) (hM : ∀ i, i < n → M 99 i = ((l.getD i 0 : Nat) : Int)) : ∃ M', gEv N (d + 1) 148 [.inr (.inr 82)] M = some (M', some (.inl ((cs A B c (2 ^ n - 1) l : Nat) : Int))) ∧ (∀ a, a < n → M' 100 a = ((posL l a : Nat) : Int)) ∧ ∀ q i, q ≠ 100 → M' q i = M q i := by
  have h128 : 2 ^ n - 1 < 128 := by
    rcases (by omega : n = 0 ∨ n = 1 ∨ n = 2 ∨ n = 3 ∨ n = 4 ∨ n = 5 ∨ n = 6 ∨ n = 7) with rfl | rfl | rfl | rfl | rfl | rfl | rfl | rfl <;> decide
  obtain ⟨m1, m2, m3⟩ := plM_mem n (2 ^ n - 1) h128 (els_all n hn) l hl
  have hget : ∀ i, i < n → l.getD i 0 ∈ l := fun i hi => by
    rw [List.getD_eq_getElem?_getD, List.getElem?_eq_getElem (by omega)]
    exact List.getElem_mem _
  obtain ⟨z', M', g0, g1, g2, g3⟩ := l_b2 (gEv N d) n l M hn m3 m2 h29 hM (fun i hi => ((m1 _).mp (hget i hi)).1) n 0 N M (by omega) (by omega) (fun _ _ _ => rfl) (fun i hi => absurd hi (Nat.not_lt_zero i))
  have hpl : ∀ a, a < n → M' 100 a = ((posL l a : Nat) : Int) := fun a ha => by
    have ham : a ∈ l := (m1 a).mpr ⟨by omega, by rw [all_bit n hn a (by omega)]; exact decide_eq_true ha⟩
    obtain ⟨i, hi, hia⟩ := List.getElem_of_mem ham
    have e : l.getD i 0 = a := by rw [List.getD_eq_getElem?_getD, List.getElem?_eq_getElem hi]; exact hia
    have := g3 i (by omega)
    rw [e] at this
    rw [this, ← e, posL_getD l i m2 hi]
  have hc' := l_b35 (gEv N d) c A B (posL l) M' hc ((g2 _ _ (by omega)).trans h37) (fun k hk => by
    obtain ⟨a1, a2, a3, a4, a5⟩ := hA k hk
    have p1 := posL_lt l (A k)
    have p2 := posL_lt l (B k)
    exact ⟨by omega, by omega, (g2 _ _ (by omega)).trans a4, (g2 _ _ (by omega)).trans a5, hpl _ a1, hpl _ a2, by omega, by omega⟩) c 0 z' 0 (by omega) (by omega)
  have hcs := cs_pos A B c (fun k hk => by
    obtain ⟨a1, a2, a3, a4, a5⟩ := hA k hk
    exact ⟨by omega, by omega, a3⟩) n (2 ^ n - 1) h128 (els_all n hn) l hl
  have hext : cB (fun j => decide (posL l (B j) < posL l (A j))) 0 c = cs A B c (2 ^ n - 1) l := by
    rw [← hcs]
    refine cB_ext _ _ c 0 (fun j _ hj => ?_)
    obtain ⟨a1, a2, a3, a4, a5⟩ := hA j (by omega)
    rw [all_bit n hn _ (by omega), all_bit n hn _ (by omega), decide_eq_true a1, decide_eq_true a2]
    rfl
  rw [hext, Nat.zero_add] at hc'
  exact ⟨M', ((q_X10_broken N d M).trans g1).trans hc', hpl, g2⟩
