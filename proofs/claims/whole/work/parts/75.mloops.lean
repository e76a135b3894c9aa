-- 75: the model over all orders
theorem l_lay2 (C : gCl) : ∀ (r k z : Nat) (M : gM), k + r = 7 → r < z → (∀ i, i < k → M 99 i = (i : Int)) → ∃ M', L_X10_layOrder_2 C z (k : Int) M = some (M', none) ∧ (∀ i, i < 7 → M' 99 i = (i : Int)) ∧ ∀ q i, q ≠ 99 → M' q i = M q i := by
  intro r
  induction r with
  | zero =>
    intro k z M hk hz h
    obtain ⟨z, rfl⟩ : ∃ y, z = y + 1 := ⟨z - 1, by omega⟩
    refine ⟨M, ?_, fun i hi => h i (by omega), fun _ _ _ => rfl⟩
    rw [q_X10_layOrder_2]
    simp (disch := omega) only [gInb_t, gLt_t, gLt_f, gEq_t, gEq_f, gIx_nat, gIx_id, gIf, cond_true, cond_false, gCi_some, gCv_some, gCr_some, gB01_0, gB01_1, gBi_01, gU_same, gU_off, gW_id, Int.toNat_natCast, Int.toNat_add, Int.toNat_mul, Int.reduceToNat, Nat.add_zero, Int.add_zero]
  | succ r ih =>
    intro k z M hk hz h
    obtain ⟨z, rfl⟩ : ∃ y, z = y + 1 := ⟨z - 1, by omega⟩
    obtain ⟨M', g1, g2, g3⟩ := ih (k + 1) z (gU M 99 k (k : Int)) (by omega) (by omega) (fun i hi => by
      by_cases hik : i = k
      · subst hik; rw [gU_same]
      · rw [gU_off _ _ (by omega)]; exact h i (by omega))
    refine ⟨M', ?_, g2, fun q i hq => (g3 q i hq).trans (gU_off _ _ (by omega))⟩
    rw [q_X10_layOrder_2, gIx_e (x := (k : Int)) (n := k) rfl (by omega), cast_1 k, g1]
    simp (disch := omega) only [gInb_t, gLt_t, gLt_f, gEq_t, gEq_f, gIx_nat, gIx_id, gIf, cond_true, cond_false, gCi_some, gCv_some, gCr_some, gB01_0, gB01_1, gBi_01, gU_same, gU_off, gW_id, Int.toNat_natCast, Int.toNat_add, Int.toNat_mul, Int.reduceToNat, Nat.add_zero, Int.add_zero]
theorem s_layOrder (N d : Nat) (M : gM) (hN : 100 ≤ N) : ∃ M', gEv N (d + 1) 145 [.inr (.inr 82)] M = some (M', none) ∧ (∀ i, i < 7 → M' 99 i = (i : Int)) ∧ ∀ q i, q ≠ 99 → M' q i = M q i := by
  obtain ⟨M', g1, g2⟩ := l_lay2 (gEv N d) 7 0 N M (by omega) (by omega) (fun i hi => absurd hi (Nat.not_lt_zero i))
  exact ⟨M', (q_X10_layOrder N d M).trans g1, g2⟩
theorem all_lt (n : Nat) (hn : n ≤ 7) : 2 ^ n - 1 < 128 := by
  rcases (by omega : n = 0 ∨ n = 1 ∨ n = 2 ∨ n = 3 ∨ n = 4 ∨ n = 5 ∨ n = 6 ∨ n = 7) with rfl | rfl | rfl | rfl | rfl | rfl | rfl | rfl <;> decide
theorem cs_le (A B : Nat → Nat) (c n : Nat) (hn : n ≤ 7) (hA : ∀ k, k < c → A k < 7 ∧ B k < 7 ∧ A k ≠ B k) (l : List Nat) (hl : l ∈ plM n (2 ^ n - 1)) : cs A B c (2 ^ n - 1) l ≤ c := by
  rw [← cs_pos A B c hA n (2 ^ n - 1) (all_lt n hn) (els_all n hn) l hl]
  exact cB_le _ c 0
theorem pl_get (n : Nat) (hn : n ≤ 7) (l : List Nat) (hl : l ∈ plM n (2 ^ n - 1)) : l.length = n ∧ ∀ i, i < n → l.getD i 0 < 7 := by
  obtain ⟨m1, m2, m3⟩ := plM_mem n (2 ^ n - 1) (all_lt n hn) (els_all n hn) l hl
  refine ⟨m3, fun i hi => ?_⟩
  have : l.getD i 0 ∈ l := by
    rw [List.getD_eq_getElem?_getD, List.getElem?_eq_getElem (by omega)]
    exact List.getElem_mem _
  exact ((m1 _).mp this).1
theorem l_48 (C : gCl) (x1 x2 x3 x4 : Int) : ∀ (r k z : Nat) (M : gM), k + r = 7 → r < z → (∀ i, i < k → M 101 i = M 99 i) → ∃ z' M', z ≤ z' + r + 1 ∧ L_X10_ranked_48 C z x1 x2 x3 x4 (k : Int) M = gCi (C 146 [.inr (.inr 82)] M') (fun M1 r2 => L_X10_ranked_26 C z' x1 x2 r2 M1) ∧ (∀ i, i < 7 → M' 101 i = M 99 i) ∧ ∀ q i, q ≠ 101 → M' q i = M q i := by
  intro r
  induction r with
  | zero =>
    intro k z M hk hz h
    obtain ⟨z, rfl⟩ : ∃ y, z = y + 1 := ⟨z - 1, by omega⟩
    refine ⟨z, M, by omega, ?_, fun i hi => h i (by omega), fun _ _ _ => rfl⟩
    rw [q_X10_ranked_48, gLt_f (by omega) (by omega) (by omega), cond_false]
  | succ r ih =>
    intro k z M hk hz h
    obtain ⟨z, rfl⟩ : ∃ y, z = y + 1 := ⟨z - 1, by omega⟩
    obtain ⟨z', M', g0, g1, g2, g3⟩ := ih (k + 1) z (gU M 101 k (M 99 k)) (by omega) (by omega) (fun i hi => by
      rw [gU_off (p := 101) (q := 99) _ _ (by omega)]
      by_cases hik : i = k
      · subst hik; rw [gU_same]
      · rw [gU_off _ _ (by omega)]; exact h i (by omega))
    refine ⟨z', M', by omega, ?_, fun i hi => (g2 i hi).trans (gU_off _ _ (by omega)), fun q i hq => (g3 q i hq).trans (gU_off _ _ (by omega))⟩
    rw [q_X10_ranked_48, gIx_e (x := (k : Int)) (n := k) rfl (by omega), cast_1 k, ← g1]
    simp (disch := omega) only [gInb_t, gLt_t, gLt_f, gEq_t, gEq_f, gIx_nat, gIx_id, gIf, cond_true, cond_false, gCi_some, gCv_some, gCr_some, gB01_0, gB01_1, gBi_01, gU_same, gU_off, gW_id, Int.toNat_natCast, Int.toNat_add, Int.toNat_mul, Int.reduceToNat, Nat.add_zero, Int.add_zero]
/-- what is answered of the first best order -/
def rkA (n : Nat) (x1 : Int) (p : Option (Nat × List Nat)) : Int := match p with
  | some p => if x1 = -1 then (p.1 : Int) else if x1 < (n : Int) then ((p.2.getD x1.toNat 0 : Nat) : Int) else -1
  | none => 0
theorem l_rkend (C : gCl) (n z v : Nat) (x1 : Int) (b : List Nat) (M : gM) (hn : n ≤ 7) (hz : 1 ≤ z) (hx : -1 ≤ x1 ∧ x1 ≤ 6) (h29 : M 82 29 = (n : Int)) (hb : ∀ i, i < n → M 101 i = ((b.getD i 0 : Nat) : Int)) : L_X10_ranked_26 C z x1 (v : Int) 0 M = some (M, some (.inl (rkA n x1 (some (v, b))))) := by
  obtain ⟨z, rfl⟩ : ∃ y, z = y + 1 := ⟨z - 1, by omega⟩
  rw [q_X10_ranked_26, gIx_e (x := 29) (n := 29) rfl (by omega), h29]
  unfold rkA
  by_cases h1 : x1 = -1
  · simp only [if_pos h1]
    simp (disch := omega) only [gInb_t, gLt_t, gLt_f, gEq_t, gEq_f, gIx_nat, gIx_id, gIf, cond_true, cond_false, gCi_some, gCv_some, gCr_some, gB01_0, gB01_1, gBi_01, gU_same, gU_off, gW_id, Int.toNat_natCast, Int.toNat_add, Int.toNat_mul, Int.reduceToNat, Nat.add_zero, Int.add_zero]
  · simp only [if_neg h1]
    by_cases h2 : x1 < (n : Int)
    · simp only [if_pos h2]
      rw [gIx_e (x := x1) (n := x1.toNat) (by omega) (by omega), hb x1.toNat (by omega)]
      simp (disch := omega) only [gInb_t, gLt_t, gLt_f, gEq_t, gEq_f, gIx_nat, gIx_id, gIf, cond_true, cond_false, gCi_some, gCv_some, gCr_some, gB01_0, gB01_1, gBi_01, gU_same, gU_off, gW_id, Int.toNat_natCast, Int.toNat_add, Int.toNat_mul, Int.reduceToNat, Nat.add_zero, Int.add_zero]
    · simp only [if_neg h2]
      simp (disch := omega) only [gInb_t, gLt_t, gLt_f, gEq_t, gEq_f, gIx_nat, gIx_id, gIf, cond_true, cond_false, gCi_some, gCv_some, gCr_some, gB01_0, gB01_1, gBi_01, gU_same, gU_off, gW_id, Int.toNat_natCast, Int.toNat_add, Int.toNat_mul, Int.reduceToNat, Nat.add_zero, Int.add_zero]
theorem l_rk (N d n c : Nat) (A B : Nat → Nat) (x1 : Int) (M0 : gM) (hN : 100 ≤ N) (hn : n ≤ 7) (hc : c ≤ 12) (hx : -1 ≤ x1 ∧ x1 ≤ 6) (h29 : M0 82 29 = (n : Int)) (h37 : M0 82 37 = (c : Int)) (hA : ∀ k, k < c → A k < n ∧ B k < n ∧ A k ≠ B k ∧ M0 82 (38 + 2 * k) = ((A k : Nat) : Int) ∧ M0 82 (39 + 2 * k) = ((B k : Nat) : Int)) : ∀ (L : List (List Nat)) (l : List Nat) (z v : Nat) (acc : Option (Nat × List Nat)) (M : gM), chB n (l :: L) = true → (∀ m, m ∈ l :: L → m ∈ plM n (2 ^ n - 1)) → 20 * (L.length + 1) + 20 < z → (∀ q i, ¬ (q = 99 ∨ q = 100 ∨ q = 101) → M q i = M0 q i) → (∀ i, i < n → M 99 i = ((l.getD i 0 : Nat) : Int)) → ((acc = none ∧ v = 99) ∨ (∃ b, acc = some (v, b) ∧ v ≤ 12 ∧ ∀ i, i < n → M 101 i = ((b.getD i 0 : Nat) : Int))) → ∃ M', L_X10_ranked_26 (gEv N (d + 2)) z x1 (v : Int) 1 M = some (M', some (.inl (rkA n x1 (mrg acc (bst1 (cs A B c (2 ^ n - 1)) (l :: L)))))) ∧ ∀ q i, ¬ (q = 99 ∨ q = 100 ∨ q = 101) → M' q i = M0 q i := by
  have hA7 : ∀ k, k < c → A k < 7 ∧ B k < 7 ∧ A k ≠ B k := fun k hk => by
    obtain ⟨a1, a2, a3, _⟩ := hA k hk
    exact ⟨by omega, by omega, a3⟩
  intro L
  induction L with
  | nil =>
    intro l z v acc M hch hmem hz hf hM hacc
    have hl := hmem l (by simp)
    obtain ⟨z, rfl⟩ : ∃ y, z = y + 1 := ⟨z - 1, by omega⟩
    obtain ⟨p1, p2⟩ := pl_get n hn l hl
    have hcs := cs_le A B c n hn hA7 l hl
    obtain ⟨M1, b1, b2, b3⟩ := s_broken N (d + 1) n c A B l M hN hn hc ((hf _ _ (by omega)).trans h29) ((hf _ _ (by omega)).trans h37) (fun k hk => by
      obtain ⟨a1, a2, a3, a4, a5⟩ := hA k hk
      exact ⟨a1, a2, a3, (hf _ _ (by omega)).trans a4, (hf _ _ (by omega)).trans a5⟩) hl hM
    have hnx : nxL n l = none := by
      simp only [chB] at hch
      cases hq : nxL n l with
      | none => rfl
      | some w => rw [hq] at hch; cases hch
    have hv : v ≤ 99 := by
      rcases hacc with ⟨_, h⟩ | ⟨b, _, h, _⟩ <;> omega
    have hb1 : bst1 (cs A B c (2 ^ n - 1)) [l] = some (cs A B c (2 ^ n - 1) l, l) := rfl
    rw [hb1]
    by_cases hlt : cs A B c (2 ^ n - 1) l < v
    · obtain ⟨z', M2, k0, k1, k2, k3⟩ := l_48 (gEv N (d + 2)) x1 ((cs A B c (2 ^ n - 1) l : Nat) : Int) 1 ((cs A B c (2 ^ n - 1) l : Nat) : Int) 7 0 z M1 (by omega) (by omega) (fun i hi => absurd hi (Nat.not_lt_zero i))
      obtain ⟨M3, n1, n2, n3⟩ := s_next N d n l M2 hN hn ((k3 _ _ (by omega)).trans ((b3 _ _ (by omega)).trans ((hf _ _ (by omega)).trans h29))) (fun i hi => (k3 _ _ (by omega)).trans ((b3 _ _ (by omega)).trans (hM i hi))) p2
      have hend := l_rkend (gEv N (d + 2)) n z' (cs A B c (2 ^ n - 1) l) x1 l M3 hn (by omega) hx ((n3 _ _ (by omega)).trans ((k3 _ _ (by omega)).trans ((b3 _ _ (by omega)).trans ((hf _ _ (by omega)).trans h29)))) (fun i hi => (n3 _ _ (by omega)).trans ((k2 i (by omega)).trans ((b3 _ _ (by omega)).trans (hM i hi))))
      have hmrg : mrg acc (some (cs A B c (2 ^ n - 1) l, l)) = some (cs A B c (2 ^ n - 1) l, l) := by
        rcases hacc with ⟨h, _⟩ | ⟨b, h, _, _⟩
        · rw [h]; rfl
        · rw [h]; simp only [mrg]; rw [if_pos hlt]
      rw [hmrg]
      refine ⟨M3, ?_, fun q i hq => (n3 q i (by omega)).trans ((k3 q i (by omega)).trans ((b3 q i (by omega)).trans (hf q i hq)))⟩
      have k1' : L_X10_ranked_48 (gEv N (d + 2)) z x1 ((cs A B c (2 ^ n - 1) l : Nat) : Int) 1 ((cs A B c (2 ^ n - 1) l : Nat) : Int) 0 M1 = _ := k1
      rw [n1, gCi_some, hnx] at k1'
      rw [q_X10_ranked_26, b1, gCi_some, gEq_f (by decide) (by decide) (by decide) (by decide) (by decide), cond_false, gLt_t (by omega) (by omega) (by omega), cond_true]
      exact k1'.trans hend
    · obtain ⟨M3, n1, n2, n3⟩ := s_next N d n l M1 hN hn ((b3 _ _ (by omega)).trans ((hf _ _ (by omega)).trans h29)) (fun i hi => (b3 _ _ (by omega)).trans (hM i hi)) p2
      rcases hacc with ⟨h, h2⟩ | ⟨b, h, h2, h3⟩
      · omega
      · have hmrg : mrg acc (some (cs A B c (2 ^ n - 1) l, l)) = some (v, b) := by
          rw [h]; simp only [mrg]; rw [if_neg hlt]
        rw [hmrg]
        have hend := l_rkend (gEv N (d + 2)) n z v x1 b M3 hn (by omega) hx ((n3 _ _ (by omega)).trans ((b3 _ _ (by omega)).trans ((hf _ _ (by omega)).trans h29))) (fun i hi => (n3 _ _ (by omega)).trans ((b3 _ _ (by omega)).trans (h3 i hi)))
        refine ⟨M3, ?_, fun q i hq => (n3 q i (by omega)).trans ((b3 q i (by omega)).trans (hf q i hq))⟩
        rw [q_X10_ranked_26, b1, gCi_some, gEq_f (by decide) (by decide) (by decide) (by decide) (by decide), cond_false, gLt_f (by omega) (by omega) (by omega), cond_false, n1, gCi_some, hnx]
        exact hend
  | cons l2 L ih =>
    intro l z v acc M hch hmem hz hf hM hacc
    have hl := hmem l (by simp)
    simp only [List.length_cons] at hz
    obtain ⟨z, rfl⟩ : ∃ y, z = y + 1 := ⟨z - 1, by omega⟩
    obtain ⟨p1, p2⟩ := pl_get n hn l hl
    have hcs := cs_le A B c n hn hA7 l hl
    obtain ⟨M1, b1, b2, b3⟩ := s_broken N (d + 1) n c A B l M hN hn hc ((hf _ _ (by omega)).trans h29) ((hf _ _ (by omega)).trans h37) (fun k hk => by
      obtain ⟨a1, a2, a3, a4, a5⟩ := hA k hk
      exact ⟨a1, a2, a3, (hf _ _ (by omega)).trans a4, (hf _ _ (by omega)).trans a5⟩) hl hM
    simp only [chB, Bool.and_eq_true, beq_iff_eq] at hch
    obtain ⟨hnx, hch2⟩ := hch
    have hv : v ≤ 99 := by
      rcases hacc with ⟨_, h⟩ | ⟨b, _, h, _⟩ <;> omega
    rw [bst1_cons, ← mrg_assoc]
    by_cases hlt : cs A B c (2 ^ n - 1) l < v
    · obtain ⟨z', M2, k0, k1, k2, k3⟩ := l_48 (gEv N (d + 2)) x1 ((cs A B c (2 ^ n - 1) l : Nat) : Int) 1 ((cs A B c (2 ^ n - 1) l : Nat) : Int) 7 0 z M1 (by omega) (by omega) (fun i hi => absurd hi (Nat.not_lt_zero i))
      obtain ⟨M3, n1, n2, n3⟩ := s_next N d n l M2 hN hn ((k3 _ _ (by omega)).trans ((b3 _ _ (by omega)).trans ((hf _ _ (by omega)).trans h29))) (fun i hi => (k3 _ _ (by omega)).trans ((b3 _ _ (by omega)).trans (hM i hi))) p2
      have hmrg : mrg acc (some (cs A B c (2 ^ n - 1) l, l)) = some (cs A B c (2 ^ n - 1) l, l) := by
        rcases hacc with ⟨h, _⟩ | ⟨b, h, _, _⟩
        · rw [h]; rfl
        · rw [h]; simp only [mrg]; rw [if_pos hlt]
      rw [hmrg]
      obtain ⟨M4, f1, f2⟩ := ih l2 z' (cs A B c (2 ^ n - 1) l) (some (cs A B c (2 ^ n - 1) l, l)) M3 hch2 (fun m hm => hmem m (List.mem_cons_of_mem _ hm)) (by omega) (fun q i hq => (n3 q i (by omega)).trans ((k3 q i (by omega)).trans ((b3 q i (by omega)).trans (hf q i hq)))) (n2 l2 hnx) (Or.inr ⟨l, rfl, by omega, fun i hi => (n3 _ _ (by omega)).trans ((k2 i (by omega)).trans ((b3 _ _ (by omega)).trans (hM i hi)))⟩)
      refine ⟨M4, ?_, f2⟩
      have k1' : L_X10_ranked_48 (gEv N (d + 2)) z x1 ((cs A B c (2 ^ n - 1) l : Nat) : Int) 1 ((cs A B c (2 ^ n - 1) l : Nat) : Int) 0 M1 = _ := k1
      rw [n1, gCi_some, hnx] at k1'
      rw [q_X10_ranked_26, b1, gCi_some, gEq_f (by decide) (by decide) (by decide) (by decide) (by decide), cond_false, gLt_t (by omega) (by omega) (by omega), cond_true]
      exact k1'.trans f1
    · obtain ⟨M3, n1, n2, n3⟩ := s_next N d n l M1 hN hn ((b3 _ _ (by omega)).trans ((hf _ _ (by omega)).trans h29)) (fun i hi => (b3 _ _ (by omega)).trans (hM i hi)) p2
      rcases hacc with ⟨h, h2⟩ | ⟨b, h, h2, h3⟩
      · omega
      · have hmrg : mrg acc (some (cs A B c (2 ^ n - 1) l, l)) = some (v, b) := by
          rw [h]; simp only [mrg]; rw [if_neg hlt]
        rw [hmrg]
        obtain ⟨M4, f1, f2⟩ := ih l2 z v (some (v, b)) M3 hch2 (fun m hm => hmem m (List.mem_cons_of_mem _ hm)) (by omega) (fun q i hq => (n3 q i (by omega)).trans ((b3 q i (by omega)).trans (hf q i hq))) (n2 l2 hnx) (Or.inr ⟨b, rfl, h2, fun i hi => (n3 _ _ (by omega)).trans ((b3 _ _ (by omega)).trans (h3 i hi))⟩)
        refine ⟨M4, ?_, f2⟩
        rw [q_X10_ranked_26, b1, gCi_some, gEq_f (by decide) (by decide) (by decide) (by decide) (by decide), cond_false, gLt_f (by omega) (by omega) (by omega), cond_false, n1, gCi_some, hnx]
        exact f1
theorem range_getD (n i : Nat) (h : i < n) : (List.range n).getD i 0 = i := by
  rw [List.getD_eq_getElem?_getD, List.getElem?_range h]
  rfl
theorem s_mranked (N d n c : Nat) (A B : Nat → Nat) (x1 : Int) (M : gM) (hN : 200000 ≤ N) (hn : n ≤ 7) (hc : c ≤ 12) (hx : -1 ≤ x1 ∧ x1 ≤ 6) (h29 : M 82 29 = (n : Int)) (h37 : M 82 37 = (c : Int)) (hA : ∀ k, k < c → A k < n ∧ B k < n ∧ A k ≠ B k ∧ M 82 (38 + 2 * k) = ((A k : Nat) : Int) ∧ M 82 (39 + 2 * k) = ((B k : Nat) : Int)) : ∃ M', gEv N (d + 3) 149 [.inr (.inr 82), .inl x1] M = some (M', some (.inl (rkA n x1 (some (lbN A B c (2 ^ n - 1), bpN A B c (2 ^ n - 1)))))) ∧ ∀ q i, ¬ (q = 99 ∨ q = 100 ∨ q = 101) → M' q i = M q i := by
  obtain ⟨M1, g1, g2, g3⟩ := s_layOrder N (d + 1) M (by omega)
  have hhead := ch_head n hn
  have hch := ch_n n hn
  have hlen := ch_len n hn
  cases hp : plM n (2 ^ n - 1) with
  | nil => rw [hp] at hhead; cases hhead
  | cons l L =>
    have hbo := bO_some A B c n (2 ^ n - 1) (all_lt n hn) (els_all n hn)
    unfold bO at hbo
    rw [hp] at hhead hch hbo hlen
    simp only [List.head?_cons, Option.some.injEq] at hhead
    subst hhead
    simp only [List.length_cons] at hlen
    obtain ⟨M2, f1, f2⟩ := l_rk N d n c A B x1 M (by omega) hn hc hx h29 h37 hA L (List.range n) N 99 none M1 hch (fun m hm => by rw [hp]; exact hm) (by omega) (fun q i hq => g3 q i (by omega)) (fun i hi => by rw [g2 i (by omega), range_getD n i hi]) (Or.inl ⟨rfl, rfl⟩)
    rw [hbo, none_mrg] at f1
    refine ⟨M2, ?_, f2⟩
    have e := q_X10_ranked N (d + 2) x1 M
    rw [s_min N (d + 1) x1 (-1) 6 (((0 : Nat) : Int) - ((1 : Nat) : Int)) (((6 : Nat) : Int) - ((0 : Nat) : Int)) M (rng_c (by omega) (by omega)) (rng_c (by omega) (by omega)) (rng_c (by omega) (by omega)) rfl rfl, gCi_some, decide_eq_true hx, g1, gCv_some] at e
    refine e.trans ?_
    rw [bI_eq0, Bool.not_true, cond_false]
    exact f1
