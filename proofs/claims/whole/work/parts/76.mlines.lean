-- 76: the model's lines
/-- one at place j of the row of pairs: both are there, the first is ahead -/
def ofB (n : Nat) (l : List Nat) (j : Nat) : Bool := decide (j % 7 < n) && decide (posL l (j / 7) < posL l (j % 7))
theorem l_55 (C : gCl) (n : Nat) (l : List Nat) (x1 : Int) (M0 : gM) (hn : n ≤ 7) (h29 : M0 82 29 = (n : Int)) (hP : ∀ a, a < n → M0 100 a = ((posL l a : Nat) : Int)) (hl : l.length = n) : ∀ (r k z : Nat) (M : gM), k + r = 7 * n → r < z → (∀ q i, q ≠ 102 → M q i = M0 q i) → (∀ j, j < 7 * n → M 102 j = M0 102 j + cond (decide (j < k) && ofB n l j) 1 0) → ∃ z' M', z ≤ z' + r + 1 ∧ L_X10_countLines_55 C z x1 (k : Int) M = gCi (C 146 [.inr (.inr 82)] M') (fun M1 r2 => L_X10_countLines_32 C z' r2 M1) ∧ (∀ j, j < 7 * n → M' 102 j = M0 102 j + cond (ofB n l j) 1 0) ∧ ∀ q i, q ≠ 102 → M' q i = M0 q i := by
  have i29 := gIx_e (x := 29) (n := 29) rfl (by omega)
  intro r
  induction r with
  | zero =>
    intro k z M hk hz hf h
    obtain ⟨z, rfl⟩ : ∃ y, z = y + 1 := ⟨z - 1, by omega⟩
    refine ⟨z, M, by omega, ?_, fun j hj => ?_, hf⟩
    · rw [q_X10_countLines_55, i29, hf 82 29 (by omega), h29, gLt_f (by omega) (by omega) (by omega), cond_false, gInb_t (by omega) (by omega) (by omega), gIf_t]
    · rw [h j hj, decide_eq_true (show j < k by omega), Bool.true_and]
  | succ r ih =>
    intro k z M hk hz hf h
    obtain ⟨z, rfl⟩ : ∃ y, z = y + 1 := ⟨z - 1, by omega⟩
    have hrem : gRem (k : Int) 7 = ((k % 7 : Nat) : Int) := by rw [gRem_id (by omega) (by omega) (by omega) (by omega)]; rfl
    have hdiv : gDiv (k : Int) 7 = ((k / 7 : Nat) : Int) := by rw [gDiv_id (by omega) (by omega) (by omega) (by omega)]; rfl
    have hk7 : k / 7 < n := by omega
    have hpd := posL_lt l (k / 7)
    have hpm := posL_lt l (k % 7)
    have hkk := h k (by omega)
    rw [decide_eq_false (show ¬ (k < k) by omega), Bool.false_and, cond_false, Int.add_zero] at hkk
    have ik := gIx_e (x := (k : Int)) (n := k) rfl (by omega)
    have hnew : ∀ v : Int, v = cond (ofB n l k) 1 0 → ∀ j, j < 7 * n → gU M 102 k (M 102 k + v) 102 j = M0 102 j + cond (decide (j < k + 1) && ofB n l j) 1 0 := fun v hv j hj => by
      by_cases hjk : j = k
      · subst hjk
        rw [gU_same, hkk, hv, decide_eq_true (show j < j + 1 by omega), Bool.true_and]
      · rw [gU_off _ _ (by omega), h j hj]
        have : decide (j < k + 1) = decide (j < k) := decide_eq_decide.mpr (by omega)
        rw [this]
    obtain ⟨z', M', g0, g1, g2, g3⟩ := ih (k + 1) z (gU M 102 k (M 102 k + cond (ofB n l k) 1 0)) (by omega) (by omega) (fun q i hq => (gU_off _ _ (by omega)).trans (hf q i hq)) (hnew _ rfl)
    refine ⟨z', M', by omega, ?_, g2, g3⟩
    rw [q_X10_countLines_55, i29, hf 82 29 (by omega), h29, hrem, hdiv, gIx_e (x := ((k % 7 : Nat) : Int)) (n := k % 7) rfl (by omega), gIx_e (x := ((k / 7 : Nat) : Int)) (n := k / 7) rfl (by omega), hf 100 _ (by omega), hP _ hk7, hf 100 _ (by omega), ik, cast_1 k, ← g1]
    by_cases h1 : k % 7 < n
    · rw [hP _ h1]
      by_cases h2 : posL l (k / 7) < posL l (k % 7)
      · have e : ofB n l k = true := by unfold ofB; rw [decide_eq_true h1, decide_eq_true h2]; rfl
        rw [e]
        simp (disch := omega) only [gInb_t, gLt_t, gLt_f, gEq_t, gEq_f, gIx_nat, gIx_id, gIf, cond_true, cond_false, gCi_some, gCv_some, gCr_some, gB01_0, gB01_1, gBi_01, gU_same, gU_off, gW_id, Int.toNat_natCast, Int.toNat_add, Int.toNat_mul, Int.reduceToNat, Nat.add_zero, Int.add_zero]
      · have e : ofB n l k = false := by unfold ofB; rw [decide_eq_true h1, decide_eq_false h2]; rfl
        rw [e]
        simp (disch := omega) only [gInb_t, gLt_t, gLt_f, gEq_t, gEq_f, gIx_nat, gIx_id, gIf, cond_true, cond_false, gCi_some, gCv_some, gCr_some, gB01_0, gB01_1, gBi_01, gU_same, gU_off, gW_id, Int.toNat_natCast, Int.toNat_add, Int.toNat_mul, Int.reduceToNat, Nat.add_zero, Int.add_zero]
    · have e : ofB n l k = false := by unfold ofB; rw [decide_eq_false h1]; rfl
      rw [e]
      simp (disch := omega) only [gInb_t, gLt_t, gLt_f, gEq_t, gEq_f, gIx_nat, gIx_id, gIf, cond_true, cond_false, gCi_some, gCv_some, gCr_some, gB01_0, gB01_1, gBi_01, gU_same, gU_off, gW_id, Int.toNat_natCast, Int.toNat_add, Int.toNat_mul, Int.reduceToNat, Nat.add_zero, Int.add_zero]
theorem l_m32 (N d n c : Nat) (A B : Nat → Nat) (M0 : gM) (hN : 100 ≤ N) (hn : n ≤ 7) (hc : c ≤ 12) (h29 : M0 82 29 = (n : Int)) (h37 : M0 82 37 = (c : Int)) (hA : ∀ k, k < c → A k < n ∧ B k < n ∧ A k ≠ B k ∧ M0 82 (38 + 2 * k) = ((A k : Nat) : Int) ∧ M0 82 (39 + 2 * k) = ((B k : Nat) : Int)) : ∀ (L : List (List Nat)) (l : List Nat) (z g : Nat) (o : Nat → Nat) (M : gM), chB n (l :: L) = true → (∀ m, m ∈ l :: L → m ∈ plM n (2 ^ n - 1)) → 60 * (L.length + 1) + 20 < z → (∀ q i, ¬ (q = 99 ∨ q = 100 ∨ q = 102 ∨ (q = 81 ∧ i = 30)) → M q i = M0 q i) → (∀ i, i < n → M 99 i = ((l.getD i 0 : Nat) : Int)) → M 81 30 = (g : Int) → (∀ j, j < 7 * n → M 102 j = ((o j : Nat) : Int)) → ∃ M', L_X10_countLines_32 (gEv N (d + 2)) z 1 M = some (M', none) ∧ M' 81 30 = ((g + cnL (fun m => decide (cs A B c (2 ^ n - 1) m = 0)) (l :: L) : Nat) : Int) ∧ (∀ j, j < 7 * n → M' 102 j = ((o j + cnL (fun m => decide (cs A B c (2 ^ n - 1) m = 0) && ofB n m j) (l :: L) : Nat) : Int)) ∧ ∀ q i, ¬ (q = 99 ∨ q = 100 ∨ q = 102 ∨ (q = 81 ∧ i = 30)) → M' q i = M0 q i := by
  have hA7 : ∀ k, k < c → A k < 7 ∧ B k < 7 ∧ A k ≠ B k := fun k hk => by
    obtain ⟨a1, a2, a3, _⟩ := hA k hk
    exact ⟨by omega, by omega, a3⟩
  -- one order: what stands behind it, and how it goes on
  have one : ∀ (l : List Nat) (z g : Nat) (o : Nat → Nat) (M : gM), l ∈ plM n (2 ^ n - 1) → 60 < z → (∀ q i, ¬ (q = 99 ∨ q = 100 ∨ q = 102 ∨ (q = 81 ∧ i = 30)) → M q i = M0 q i) → (∀ i, i < n → M 99 i = ((l.getD i 0 : Nat) : Int)) → M 81 30 = (g : Int) → (∀ j, j < 7 * n → M 102 j = ((o j : Nat) : Int)) → ∃ z' M', z ≤ z' + 60 ∧ L_X10_countLines_32 (gEv N (d + 2)) z 1 M = L_X10_countLines_32 (gEv N (d + 2)) z' (bI (nxL n l).isSome) M' ∧ (∀ q i, ¬ (q = 99 ∨ q = 100 ∨ q = 102 ∨ (q = 81 ∧ i = 30)) → M' q i = M0 q i) ∧ (∀ l', nxL n l = some l' → ∀ i, i < n → M' 99 i = ((l'.getD i 0 : Nat) : Int)) ∧ M' 81 30 = ((g + cond (decide (cs A B c (2 ^ n - 1) l = 0)) 1 0 : Nat) : Int) ∧ (∀ j, j < 7 * n → M' 102 j = ((o j + cond (decide (cs A B c (2 ^ n - 1) l = 0) && ofB n l j) 1 0 : Nat) : Int)) := by
    intro l z g o M hl hz hf hM hg ho
    obtain ⟨z, rfl⟩ : ∃ y, z = y + 1 := ⟨z - 1, by omega⟩
    obtain ⟨p1, p2⟩ := pl_get n hn l hl
    have hcs := cs_le A B c n hn hA7 l hl
    obtain ⟨M1, b1, b2, b3⟩ := s_broken N (d + 1) n c A B l M hN hn hc ((hf _ _ (by omega)).trans h29) ((hf _ _ (by omega)).trans h37) (fun k hk => by
      obtain ⟨a1, a2, a3, a4, a5⟩ := hA k hk
      exact ⟨a1, a2, a3, (hf _ _ (by omega)).trans a4, (hf _ _ (by omega)).trans a5⟩) hl hM
    by_cases h0 : cs A B c (2 ^ n - 1) l = 0
    · have f2 : ∀ q i, ¬ (q = 81 ∧ i = 30) → gU M1 81 30 (M1 81 30 + 1) q i = M1 q i := fun q i hq => gU_off _ _ hq
      have v2 : gU M1 81 30 (M1 81 30 + 1) 81 30 = ((g + 1 : Nat) : Int) := by rw [gU_same, b3 _ _ (by omega), hg]; rfl
      obtain ⟨z', M2, k0, k1, k2, k3⟩ := l_55 (gEv N (d + 2)) n l 1 (gU M1 81 30 (M1 81 30 + 1)) hn ((f2 _ _ (by omega)).trans ((b3 _ _ (by omega)).trans ((hf _ _ (by omega)).trans h29))) (fun a ha => (f2 _ _ (by omega)).trans (b2 a ha)) p1 (7 * n) 0 z (gU M1 81 30 (M1 81 30 + 1)) (by omega) (by omega) (fun _ _ _ => rfl) (fun j hj => by
        rw [decide_eq_false (Nat.not_lt_zero j), Bool.false_and, cond_false, Int.add_zero])
      obtain ⟨M3, n1, n2, n3⟩ := s_next N d n l M2 hN hn ((k3 _ _ (by omega)).trans ((f2 _ _ (by omega)).trans ((b3 _ _ (by omega)).trans ((hf _ _ (by omega)).trans h29)))) (fun i hi => (k3 _ _ (by omega)).trans ((f2 _ _ (by omega)).trans ((b3 _ _ (by omega)).trans (hM i hi)))) p2
      refine ⟨z', M3, by omega, ?_, fun q i hq => (n3 q i (by omega)).trans ((k3 q i (by omega)).trans ((f2 q i (by omega)).trans ((b3 q i (by omega)).trans (hf q i hq)))), n2, ?_, fun j hj => ?_⟩
      · have k1' : L_X10_countLines_55 (gEv N (d + 2)) z 1 0 (gU M1 81 30 (M1 81 30 + 1)) = _ := k1
        rw [n1, gCi_some] at k1'
        rw [q_X10_countLines_32, b1, gCi_some, h0, gEq_f (by decide) (by decide) (by decide) (by decide) (by decide), cond_false, gEq_t (by omega), cond_true]
        exact k1'
      · rw [n3 _ _ (by omega), k3 _ _ (by omega), v2, decide_eq_true h0]
        rfl
      · rw [n3 _ _ (by omega), k2 j hj, f2 _ _ (by omega), b3 _ _ (by omega), ho j hj, decide_eq_true h0, Bool.true_and]
        cases ofB n l j <;> rfl
    · obtain ⟨M3, n1, n2, n3⟩ := s_next N d n l M1 hN hn ((b3 _ _ (by omega)).trans ((hf _ _ (by omega)).trans h29)) (fun i hi => (b3 _ _ (by omega)).trans (hM i hi)) p2
      refine ⟨z, M3, by omega, ?_, fun q i hq => (n3 q i (by omega)).trans ((b3 q i (by omega)).trans (hf q i hq)), n2, ?_, fun j hj => ?_⟩
      · rw [q_X10_countLines_32, b1, gCi_some, gEq_f (by decide) (by decide) (by decide) (by decide) (by decide), cond_false, gEq_f (by omega) (by omega) (by omega) (by omega) (by omega), cond_false, n1, gCi_some]
      · rw [n3 _ _ (by omega), b3 _ _ (by omega), hg, decide_eq_false h0]
        rfl
      · rw [n3 _ _ (by omega), b3 _ _ (by omega), ho j hj, decide_eq_false h0, Bool.false_and]
        rfl
  intro L
  induction L with
  | nil =>
    intro l z g o M hch hmem hz hf hM hg ho
    obtain ⟨z', M', e0, e1, e2, e3, e4, e5⟩ := one l z g o M (hmem l (by simp)) (by omega) hf hM hg ho
    have hnx : nxL n l = none := by
      simp only [chB] at hch
      cases hq : nxL n l with
      | none => rfl
      | some w => rw [hq] at hch; cases hch
    rw [hnx] at e1
    obtain ⟨z', rfl⟩ : ∃ y, z' = y + 1 := ⟨z' - 1, by omega⟩
    refine ⟨M', e1.trans ?_, ?_, fun j hj => ?_, e2⟩
    · rw [q_X10_countLines_32, show bI (none : Option (List Nat)).isSome = 0 from rfl, gEq_refl, cond_true]
    · rw [e4]; simp only [cnL, Nat.add_zero]
    · rw [e5 j hj]; simp only [cnL, Nat.add_zero]
  | cons l2 L ih =>
    intro l z g o M hch hmem hz hf hM hg ho
    simp only [List.length_cons] at hz
    obtain ⟨z', M', e0, e1, e2, e3, e4, e5⟩ := one l z g o M (hmem l (by simp)) (by omega) hf hM hg ho
    simp only [chB, Bool.and_eq_true, beq_iff_eq] at hch
    obtain ⟨hnx, hch2⟩ := hch
    rw [hnx] at e1
    obtain ⟨M2, f1, f2, f3, f4⟩ := ih l2 z' (g + cond (decide (cs A B c (2 ^ n - 1) l = 0)) 1 0) (fun j => o j + cond (decide (cs A B c (2 ^ n - 1) l = 0) && ofB n l j) 1 0) M' hch2 (fun m hm => hmem m (List.mem_cons_of_mem _ hm)) (by omega) e2 (e3 l2 hnx) e4 e5
    refine ⟨M2, e1.trans f1, ?_, fun j hj => ?_, f4⟩
    · rw [f2, Nat.add_assoc]; rfl
    · rw [f3 j hj, Nat.add_assoc]; rfl
theorem l_m7 (C : gCl) : ∀ (r k z : Nat) (M : gM), k + r = 49 → r < z → (∀ i, i < k → M 102 i = 0) → ∃ z' M', z ≤ z' + r + 1 ∧ L_X10_countLines_7 C z (k : Int) M = gCv (C 145 [.inr (.inr 82)] M') (fun M1 => L_X10_countLines_32 C z' 1 M1) ∧ (∀ i, i < 49 → M' 102 i = 0) ∧ ∀ q i, q ≠ 102 → M' q i = M q i := by
  intro r
  induction r with
  | zero =>
    intro k z M hk hz h
    obtain ⟨z, rfl⟩ : ∃ y, z = y + 1 := ⟨z - 1, by omega⟩
    refine ⟨z, M, by omega, ?_, fun i hi => h i (by omega), fun _ _ _ => rfl⟩
    rw [q_X10_countLines_7, gLt_f (by omega) (by omega) (by omega), cond_false]
  | succ r ih =>
    intro k z M hk hz h
    obtain ⟨z, rfl⟩ : ∃ y, z = y + 1 := ⟨z - 1, by omega⟩
    obtain ⟨z', M', g0, g1, g2, g3⟩ := ih (k + 1) z (gU M 102 k 0) (by omega) (by omega) (fun i hi => by
      by_cases hik : i = k
      · subst hik; rw [gU_same]
      · rw [gU_off _ _ (by omega)]; exact h i (by omega))
    refine ⟨z', M', by omega, ?_, g2, fun q i hq => (g3 q i hq).trans (gU_off _ _ (by omega))⟩
    rw [q_X10_countLines_7, gIx_e (x := (k : Int)) (n := k) rfl (by omega), cast_1 k, ← g1]
    simp (disch := omega) only [gInb_t, gLt_t, gLt_f, gEq_t, gEq_f, gIx_nat, gIx_id, gIf, cond_true, cond_false, gCi_some, gCv_some, gCr_some, gB01_0, gB01_1, gBi_01, gU_same, gU_off, gW_id, Int.toNat_natCast, Int.toNat_add, Int.toNat_mul, Int.reduceToNat, Nat.add_zero, Int.add_zero]
theorem s_mcount (N d n c : Nat) (A B : Nat → Nat) (M : gM) (hN : 500000 ≤ N) (hn : n ≤ 7) (hc : c ≤ 12) (h29 : M 82 29 = (n : Int)) (h37 : M 82 37 = (c : Int)) (hA : ∀ k, k < c → A k < n ∧ B k < n ∧ A k ≠ B k ∧ M 82 (38 + 2 * k) = ((A k : Nat) : Int) ∧ M 82 (39 + 2 * k) = ((B k : Nat) : Int)) : ∃ M', gEv N (d + 3) 150 [.inr (.inr 82)] M = some (M', none) ∧ M' 81 30 = ((unN (hm A B c) (2 ^ n - 1) : Nat) : Int) ∧ (∀ a b, a < n → b < n → a ≠ b → M' 102 (7 * a + b) = ((unN (upH (hm A B c) b (ob (hm A B c b) a)) (2 ^ n - 1) : Nat) : Int)) ∧ ∀ q i, ¬ (q = 99 ∨ q = 100 ∨ q = 102 ∨ (q = 81 ∧ i = 30)) → M' q i = M q i := by
  have hA2 : ∀ k, k < c → A k < 7 ∧ B k < 7 := fun k hk => by
    obtain ⟨a1, a2, _⟩ := hA k hk
    exact ⟨by omega, by omega⟩
  obtain ⟨z', M1, g0, g1, g2, g3⟩ := l_m7 (gEv N (d + 2)) 49 0 N (gU M 81 30 0) (by omega) (by omega) (fun i hi => absurd hi (Nat.not_lt_zero i))
  obtain ⟨M2, k1, k2, k3⟩ := s_layOrder N (d + 1) M1 (by omega)
  have fr : ∀ q i, ¬ (q = 99 ∨ q = 102 ∨ (q = 81 ∧ i = 30)) → M2 q i = M q i := fun q i hq => (k3 q i (by omega)).trans ((g3 q i (by omega)).trans (gU_off _ _ (by omega)))
  have hhead := ch_head n hn
  have hch := ch_n n hn
  have hlen := ch_len n hn
  cases hp : plM n (2 ^ n - 1) with
  | nil => rw [hp] at hhead; cases hhead
  | cons l L =>
    rw [hp] at hhead hch hlen
    simp only [List.head?_cons, Option.some.injEq] at hhead
    subst hhead
    simp only [List.length_cons] at hlen
    obtain ⟨M3, f1, f2, f3, f4⟩ := l_m32 N d n c A B M (by omega) hn hc h29 h37 hA L (List.range n) z' 0 (fun _ => 0) M2 hch (fun m hm => by rw [hp]; exact hm) (by omega) (fun q i hq => fr q i (by omega)) (fun i hi => by rw [k2 i (by omega), range_getD n i hi]) (by rw [k3 _ _ (by omega), g3 _ _ (by omega), gU_same]; rfl) (fun j hj => by rw [k3 _ _ (by omega), g2 j (by omega)]; rfl)
    have hgood : cnL (fun m => decide (cs A B c (2 ^ n - 1) m = 0)) (List.range n :: L) = unN (hm A B c) (2 ^ n - 1) := by
      unfold unN
      rw [els_all n hn, hp]
      exact cnL_ext _ _ _ (fun m _ => (gd_cs A B c hA2 m _).symm)
    refine ⟨M3, ?_, ?_, fun a b ha hb hab => ?_, f4⟩
    · have e : gEv N (d + 3) 150 [.inr (.inr 82)] M = _ := (q_X10_countLines N (d + 2) M).trans g1
      rw [k1, gCv_some] at e
      exact e.trans f1
    · rw [f2, hgood, Nat.zero_add]
    · have hjb : (7 * a + b) % 7 = b := by omega
      have hja : (7 * a + b) / 7 = a := by omega
      have hext : cnL (fun m => decide (cs A B c (2 ^ n - 1) m = 0) && ofB n m (7 * a + b)) (List.range n :: L) = unN (upH (hm A B c) b (ob (hm A B c b) a)) (2 ^ n - 1) := by
        unfold unN
        rw [els_all n hn, ← hp]
        refine cnL_ext _ _ _ (fun m hm' => ?_)
        rw [gd_one (hm A B c) a b (by omega) (by omega) hab (hm_lt A B c hA2) n (2 ^ n - 1) (all_lt n hn) (els_all n hn) (by rw [all_bit n hn a (by omega)]; exact decide_eq_true ha) (by rw [all_bit n hn b (by omega)]; exact decide_eq_true hb) m hm', gd_cs A B c hA2 m _]
        unfold ofB
        rw [hjb, hja, decide_eq_true hb, Bool.true_and]
      have := f3 (7 * a + b) (by omega)
      rw [hext, Nat.zero_add] at this
      exact this
