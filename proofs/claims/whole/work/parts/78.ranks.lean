-- 78: the class's ranking
theorem els_n : ∀ n, n ≤ 7 → ∀ s, s < 2 ^ n → els s = (List.range' 0 n).filter (fun x => s.testBit x) := by decide +kernel
theorem pow_lt (n : Nat) (hn : n ≤ 7) : 2 ^ n ≤ 128 := by
  have := Nat.pow_le_pow_right (n := 2) (by omega) hn
  omega
/-- the best so far, b, against those of a row -/
def lf (val : Nat → Nat) (b : Option Nat) : List Nat → Option Nat
  | [] => b
  | x :: L => lf val (match b with
    | none => some x
    | some y => if val x < val y then some x else some y) L
theorem lf_am (val : Nat → Nat) : ∀ (L : List Nat) (b : Option Nat), lf val b L = match am val L with
    | none => b
    | some y => match b with
      | none => some y
      | some x => if val y < val x then some y else some x
  | [], b => rfl
  | x :: L, b => by
    simp only [lf, am]
    rw [lf_am val L]
    cases am val L with
    | none => cases b <;> rfl
    | some y =>
      cases b with
      | none =>
        by_cases h2 : val y < val x
        · simp only [if_pos h2]
        · simp only [if_neg h2]
      | some w =>
        by_cases h1 : val x < val w
        · simp only [if_pos h1]
          by_cases h2 : val y < val x
          · simp only [if_pos h2]
            rw [if_pos (by omega)]
          · simp only [if_neg h2]
            rw [if_pos h1]
        · simp only [if_neg h1]
          by_cases h2 : val y < val x
          · simp only [if_pos h2]
          · simp only [if_neg h2]
            rw [if_neg h1, if_neg (by omega)]
/-- -1, or who it is -/
def oI (b : Option Nat) : Int := match b with
  | none => -1
  | some x => (x : Int)
theorem l_bf4 (C : gCl) (n s : Nat) (val : Nat → Nat) (M : gM) (hn : n ≤ 7) (hs : s < 128) (h58 : M 58 0 = (n : Int)) (hv : ∀ x, val x ≤ 1000) (hC : ∀ x, x < 7 → s.testBit x = true → C 18 [.inr (.inr 59), .inl (s : Int), .inl (x : Int)] M = some (M, some (.inl ((val x : Nat) : Int)))) : ∀ (r k z : Nat) (b : Option Nat), k + r = n → 2 * r < z → (∀ y, b = some y → y < 7 ∧ s.testBit y = true) → L_X3_bestFirst_4 C z (s : Int) (oI b) (k : Int) M = some (M, some (.inl (gMax (oI (lf val b ((List.range' k r).filter (fun x => s.testBit x)))) 0))) := by
  intro r
  induction r with
  | zero =>
    intro k z b hk hz hb
    obtain ⟨z, rfl⟩ : ∃ y, z = y + 1 := ⟨z - 1, by omega⟩
    rw [q_X3_bestFirst_4, h58]
    simp (disch := omega) only [gInb_t, gLt_t, gLt_f, gEq_t, gEq_f, gIx_nat, gIx_id, gIf, cond_true, cond_false, gCi_some, gCv_some, gCr_some, gB01_0, gB01_1, gBi_01, gU_same, gU_off, gW_id, Int.toNat_natCast, Int.toNat_add, Int.toNat_mul, Int.reduceToNat, Nat.add_zero, Int.add_zero]
    rfl
  | succ r ih =>
    intro k z b hk hz hb
    obtain ⟨z, rfl⟩ : ∃ y, z = y + 1 := ⟨z - 1, by omega⟩
    rw [List.range'_succ, q_X3_bestFirst_4, h58, m_bit s hs k (by omega)]
    obtain ⟨z, rfl⟩ : ∃ y, z = y + 1 := ⟨z - 1, by omega⟩
    cases hbit : s.testBit k with
    | false =>
      rw [List.filter_cons_of_neg (by rw [hbit]; decide)]
      have := ih (k + 1) z b (by omega) (by omega) hb
      rw [gLt_t (by omega) (by omega) (by omega), cond_true, show bI false = 0 from rfl, gEq_f (by decide) (by decide) (by decide) (by decide) (by decide), cond_false, q_X3_bestFirst_26, gEq_refl, cond_true, cast_1 k]
      exact this
    | true =>
      rw [List.filter_cons_of_pos hbit]
      simp only [lf]
      rw [gLt_t (by omega) (by omega) (by omega), cond_true, show bI true = 1 from rfl, gEq_refl, cond_true, q_X3_bestFirst_26, gEq_f (by decide) (by decide) (by decide) (by decide) (by decide), cond_false, cast_1 k]
      cases b with
      | none =>
        rw [show oI none = -1 from rfl, gEq_refl, cond_true]
        exact ih (k + 1) z (some k) (by omega) (by omega) (fun y hy => by cases hy; exact ⟨by omega, hbit⟩)
      | some y =>
        obtain ⟨y7, ybit⟩ := hb y rfl
        have v1 := hv k
        have v2 := hv y
        rw [show oI (some y) = (y : Int) from rfl, gEq_f (by omega) (by omega) (by omega) (by omega) (by omega), cond_false, hC k (by omega) hbit, gCi_some, hC y y7 ybit, gCi_some]
        by_cases h : val k < val y
        · rw [gLt_t (by omega) (by omega) (by omega), cond_true]
          simp only [if_pos h]
          exact ih (k + 1) z (some k) (by omega) (by omega) (fun y hy => by cases hy; exact ⟨by omega, hbit⟩)
        · rw [gLt_f (by omega) (by omega) (by omega), cond_false]
          simp only [if_neg h]
          exact ih (k + 1) z (some y) (by omega) (by omega) hb
theorem cs_le2 (A B : Nat → Nat) (c : Nat) : ∀ (l : List Nat) (s : Nat), cs A B c s l ≤ c * l.length
  | [], s => by simp [cs]
  | x :: r, s => by
    have h1 := cs_le2 A B c r (rs s x)
    have h2 : qn A B c (rs s x) x ≤ c := cB_le _ c 0
    simp only [cs, List.length_cons]
    rw [Nat.mul_add, Nat.mul_one]
    omega
theorem bst1_mem {α : Type} (f : α → Nat) : ∀ (L : List α) (p : Nat × α), bst1 f L = some p → p.2 ∈ L ∧ p.1 = f p.2
  | [], p, h => by cases h
  | l :: L, p, h => by
    rw [bst1_cons] at h
    cases hb : bst1 f L with
    | none =>
      rw [hb, mrg_none] at h
      cases h
      exact ⟨by simp, rfl⟩
    | some q =>
      rw [hb] at h
      simp only [mrg] at h
      by_cases hq : q.1 < f l
      · rw [if_pos hq] at h
        cases h
        have := bst1_mem f L p hb
        exact ⟨List.mem_cons_of_mem _ this.1, this.2⟩
      · rw [if_neg hq] at h
        cases h
        exact ⟨by simp, rfl⟩
theorem lb_le (A B : Nat → Nat) (c s : Nat) (hc : c ≤ 12) (hs : s < 128) : lbN A B c s ≤ 84 ∧ (bpN A B c s).length = (els s).length := by
  have h := bO_some A B c (els s).length s hs rfl
  unfold bO at h
  obtain ⟨h1, h2⟩ := bst1_mem _ _ _ h
  simp only at h1 h2
  have h3 := (plM_mem _ s hs rfl _ h1).2.2
  have h4 := cs_le2 A B c (bpN A B c s) s
  have h5 : ∀ s, s < 128 → (els s).length ≤ 7 := by decide +kernel
  have h6 := h5 s hs
  refine ⟨?_, h3⟩
  rw [h2]
  have h7 : c * (bpN A B c s).length ≤ 12 * 7 := Nat.mul_le_mul hc (by omega)
  omega
theorem s_bfirst (N d n c s : Nat) (A B : Nat → Nat) (M : gM) (hN : 100 ≤ N) (hn : n ≤ 7) (hc : c ≤ 12) (hs : s < 2 ^ n) (h0 : s ≠ 0) (hA : ∀ k, k < c → A k < n ∧ B k < 7) (hL : lrn M n c A B) (h61 : ∀ t, t < s → M 61 t = ((lbN A B c t : Nat) : Int)) : ∃ x, am (vlN A B c s) (els s) = some x ∧ x < 7 ∧ s.testBit x = true ∧ lbN A B c s = vlN A B c s x ∧ bpN A B c s = x :: bpN A B c (rs s x) ∧ gEv N (d + 2) 17 [.inr (.inr 59), .inl (s : Int)] M = some (M, some (.inl (x : Int))) := by
  have hp := pow_lt n hn
  obtain ⟨x, x1, x2, x3⟩ := lb_step A B c s (by omega) h0
  obtain ⟨x4, x5⟩ := (els_mem s x).mp (am_mem _ _ _ x1)
  refine ⟨x, x1, x4, x5, x2, x3, ?_⟩
  have hv : ∀ y, vlN A B c s y ≤ 1000 := fun y => by
    unfold vlN
    have h2 : qn A B c (rs s y) y ≤ c := cB_le _ c 0
    by_cases hy : y < 7
    · have := (lb_le A B c (rs s y) hc (by have := rs_le s (by omega) y hy; omega)).1
      omega
    · have h3 : rs s y = s := by
        unfold rs
        rw [Nat.testBit_lt_two_pow (Nat.lt_of_lt_of_le (show s < 2 ^ 7 by omega) (Nat.pow_le_pow_right (by omega) (by omega)))]
        rfl
      rw [h3] at h2 ⊢
      have := (lb_le A B c s hc (by omega)).1
      omega
  have l1 := l_bf4 (gEv N (d + 1)) n s (vlN A B c s) M hn (by omega) hL.1 hv (fun y y7 ybit => s_bfrom N d n c s y A B M hN hn (by omega) y7 hA hL (h61 _ (rs_lt s (by omega) y y7 ybit))) n 0 N none (by omega) (by omega) (fun y hy => by cases hy)
  rw [← els_n n hn s hs, lf_am, x1] at l1
  refine (q_X3_bestFirst N (d + 1) (s : Int) M).trans ?_
  refine Eq.trans l1 ?_
  simp only [oI]
  rw [gMax_id (by omega) (by omega) (by omega) (by omega), if_neg (by omega)]
theorem lrn_fr {M M' : gM} {n c : Nat} {A B : Nat → Nat} (h : lrn M n c A B) (e : ∀ q i, 58 ≤ q → q ≤ 60 → M' q i = M q i) : lrn M' n c A B := ⟨(e _ _ (by omega) (by omega)).trans h.1, fun j hj => (e _ _ (by omega) (by omega)).trans (h.2.1 j hj), fun x hx => (e _ _ (by omega) (by omega)).trans (h.2.2 x hx)⟩
theorem l_r49 (N d n c : Nat) (A B : Nat → Nat) (M0 : gM) (hN : 100 ≤ N) (hn : n ≤ 7) (hc : c ≤ 12) (hA : ∀ k, k < c → A k < n ∧ B k < 7) (hL : lrn M0 n c A B) (h61 : ∀ t, t < 2 ^ n → M0 61 t = ((lbN A B c t : Nat) : Int)) : ∀ (r k z s : Nat) (M : gM), k + r = n → r < z → s < 2 ^ n → (els s).length = r → (∀ q i, q ≠ 63 → M q i = M0 q i) → ∃ M', L_X3_rank_49 (gEv N (d + 2)) z ((2 ^ n - 1 : Nat) : Int) (s : Int) (k : Int) M = some (M', some (.inl ((lbN A B c (2 ^ n - 1) : Nat) : Int))) ∧ (∀ i, i < r → M' 63 (k + i) = (((bpN A B c s).getD i 0 : Nat) : Int)) ∧ (∀ i, i < k → M' 63 i = M 63 i) ∧ ∀ q i, q ≠ 63 → M' q i = M0 q i := by
  have hp := pow_lt n hn
  have hpos : 1 ≤ 2 ^ n := Nat.one_le_two_pow
  intro r
  induction r with
  | zero =>
    intro k z s M hk hz hs hr hf
    obtain ⟨z, rfl⟩ : ∃ y, z = y + 1 := ⟨z - 1, by omega⟩
    refine ⟨M, ?_, fun i hi => absurd hi (Nat.not_lt_zero i), fun _ _ => rfl, hf⟩
    rw [q_X3_rank_49, hf 58 0 (by omega), hL.1, gIx_e (x := ((2 ^ n - 1 : Nat) : Int)) (n := 2 ^ n - 1) rfl (by omega), hf 61 _ (by omega), h61 _ (by omega), gLt_f (by omega) (by omega) (by omega), cond_false, gInb_t (by omega) (by omega) (by omega), gIf_t]
  | succ r ih =>
    intro k z s M hk hz hs hr hf
    obtain ⟨z, rfl⟩ : ∃ y, z = y + 1 := ⟨z - 1, by omega⟩
    have h0 : s ≠ 0 := fun q => by
      subst q
      have : (els 0).length = 0 := by decide
      omega
    obtain ⟨x, x1, x2, x3, x4, x5, x6⟩ := s_bfirst N d n c s A B M hN hn hc hs h0 hA (lrn_fr hL (fun q i h1 h2 => hf q i (by omega))) (fun t ht => (hf _ _ (by omega)).trans (h61 t (by omega)))
    have hlt := rs_lt s (by omega) x x2 x3
    have hle := els_rs s (by omega) x x2 x3
    obtain ⟨M', g1, g2, g3, g4⟩ := ih (k + 1) z (rs s x) (gU M 63 k (x : Int)) (by omega) (by omega) (by omega) (by omega) (fun q i hq => (gU_off _ _ (by omega)).trans (hf q i hq))
    refine ⟨M', ?_, fun i hi => ?_, fun i hi => (g3 i (by omega)).trans (gU_off _ _ (by omega)), g4⟩
    · rw [q_X3_rank_49, hf 58 0 (by omega), hL.1, x6, gCi_some, gIx_e (x := (k : Int)) (n := k) rfl (by omega), gU_same, m_rs s (by omega) x x2, cast_1 k, g1, gLt_t (by omega) (by omega) (by omega), cond_true, gInb_t (by omega) (by omega) (by omega), gIf_t, gIf_t]
    · rw [x5]
      match i with
      | 0 =>
        rw [Nat.add_zero, g3 k (by omega), gU_same]
        rfl
      | i + 1 =>
        rw [show k + (i + 1) = k + 1 + i by omega, g2 i (by omega)]
        rfl
theorem l_r18 (N d n c : Nat) (A B : Nat → Nat) (M0 : gM) (hN : 100 ≤ N) (hn : n ≤ 7) (hc : c ≤ 12) (hA : ∀ k, k < c → A k < n ∧ B k < 7) (hL : lrn M0 n c A B) : ∀ (r k z : Nat) (M : gM), k + r = 2 ^ n → 1 ≤ k → r < z → (∀ q i, q ≠ 61 → M q i = M0 q i) → (∀ t, t < k → M 61 t = ((lbN A B c t : Nat) : Int)) → ∃ z' M', z ≤ z' + r + 1 ∧ L_X3_rank_18 (gEv N (d + 2)) z ((2 ^ n - 1 : Nat) : Int) (k : Int) M = L_X3_rank_49 (gEv N (d + 2)) z' ((2 ^ n - 1 : Nat) : Int) ((2 ^ n - 1 : Nat) : Int) 0 M' ∧ (∀ t, t < 2 ^ n → M' 61 t = ((lbN A B c t : Nat) : Int)) ∧ ∀ q i, q ≠ 61 → M' q i = M0 q i := by
  have hp := pow_lt n hn
  intro r
  induction r with
  | zero =>
    intro k z M hk h1 hz hf h61
    obtain ⟨z, rfl⟩ : ∃ y, z = y + 1 := ⟨z - 1, by omega⟩
    refine ⟨z, M, by omega, ?_, fun t ht => h61 t (by omega), hf⟩
    rw [q_X3_rank_18, gLt_t (by omega) (by omega) (by omega), cond_true]
  | succ r ih =>
    intro k z M hk h1 hz hf h61
    obtain ⟨z, rfl⟩ : ∃ y, z = y + 1 := ⟨z - 1, by omega⟩
    have hLM := lrn_fr (M' := M) hL (fun q i h1 h2 => hf q i (by omega))
    obtain ⟨x, x1, x2, x3, x4, x5, x6⟩ := s_bfirst N d n c k A B M hN hn hc (by omega) (by omega) hA hLM h61
    have hb := s_bfrom N (d + 1) n c k x A B M hN hn (by omega) x2 hA hLM (h61 _ (rs_lt k (by omega) x x2 x3))
    obtain ⟨z', M', g0, g1, g2, g3⟩ := ih (k + 1) z (gU M 61 k ((vlN A B c k x : Nat) : Int)) (by omega) (by omega) (by omega) (fun q i hq => (gU_off _ _ (by omega)).trans (hf q i hq)) (fun t ht => by
      by_cases htk : t = k
      · subst htk; rw [gU_same, x4]
      · rw [gU_off _ _ (by omega)]; exact h61 t (by omega))
    refine ⟨z', M', by omega, ?_, g2, g3⟩
    rw [q_X3_rank_18, x6, gCi_some, hb, gCi_some, gIx_e (x := (k : Int)) (n := k) rfl (by omega), cast_1 k, g1, gLt_f (by omega) (by omega) (by omega), cond_false, gInb_t (by omega) (by omega) (by omega), gIf_t]
theorem s_rank (N d n c : Nat) (A B : Nat → Nat) (M : gM) (hN : 1000 ≤ N) (hn : n ≤ 7) (hc : c ≤ 12) (hA : ∀ k, k < c → A k < n ∧ B k < 7) (hL : lrn M n c A B) : ∃ M', gEv N (d + 3) 16 [.inr (.inr 59)] M = some (M', some (.inl ((lbN A B c (2 ^ n - 1) : Nat) : Int))) ∧ (∀ i, i < n → M' 63 i = (((bpN A B c (2 ^ n - 1)).getD i 0 : Nat) : Int)) ∧ ∀ q i, q ≠ 61 → q ≠ 63 → M' q i = M q i := by
  have hp := pow_lt n hn
  have hpos : 1 ≤ 2 ^ n := Nat.one_le_two_pow
  have e := q_X3_rank N (d + 2) M
  rw [hL.1, m_all n hn, gIx_e (x := 0) (n := 0) rfl (by omega), gInb_t (by omega) (by omega) (by omega), gIf_t] at e
  obtain ⟨z', M1, g0, g1, g2, g3⟩ := l_r18 N d n c A B (gU M 61 0 0) (by omega) hn hc hA (lrn_fr hL (fun q i h1 h2 => gU_off _ _ (by omega))) (2 ^ n - 1) 1 N (gU M 61 0 0) (by omega) (by omega) (by omega) (fun _ _ _ => rfl) (fun t ht => by
    have : t = 0 := by omega
    subst this
    rw [gU_same, (lb_zero A B c).1]
    rfl)
  obtain ⟨M2, f1, f2, f3, f4⟩ := l_r49 N d n c A B M1 (by omega) hn hc hA (lrn_fr hL (fun q i h1 h2 => (g3 q i (by omega)).trans (gU_off _ _ (by omega)))) g2 n 0 z' (2 ^ n - 1) M1 (by omega) (by omega) (by omega) (els_all n hn) (fun _ _ _ => rfl)
  refine ⟨M2, (e.trans g1).trans f1, fun i hi => by have := f2 i hi; rw [Nat.zero_add] at this; exact this, fun q i h1 h2 => (f4 q i h2).trans ((g3 q i h1).trans (gU_off _ _ (by omega)))⟩
theorem p_ranked (N d : Nat) (a : Int) (M : gM) (hN : 1000000 ≤ N) (hI : kInv M) (ha : rng a) : kPair N (d + 20) 72 149 [.inl a] M := by
  obtain ⟨n, K, t, F, G, c, A, B, c', A', B', l, s, h⟩ := id hI
  obtain ⟨hP, hW, hT, hQ, hQ', hX, hU, hKp, hS, hD, hw, hz⟩ := id h
  have hn := hP.1
  have h6 := hP.2.1
  have m29 := hP.2.2.1
  have hKx := iPpl_kx hP
  have hKm := iPpl_km hP
  obtain ⟨hOk, hG8, hH0⟩ := id hW
  obtain ⟨q1, q2, q3, q4⟩ := id hQ
  have c1 := q_X9_ranked N (d + 19) a M
  rw [s_xin N _ a (-1) 6 M ha (rng_c (by omega) (by omega)) (rng_c (by omega) (by omega)), gCi_some, h6] at c1
  by_cases h0 : -1 ≤ a ∧ a ≤ 6
  · rw [decide_eq_true h0] at c1
    obtain ⟨M1, a1, a2, a3⟩ := s_learn N (d + 18) n c A B M (by omega) hn q1 q2 (fun k hk => by
      obtain ⟨x1, x2, x3, x4, x5, x6, x7⟩ := q4 k hk
      exact ⟨by omega, by omega, x4, x5⟩)
    obtain ⟨M2, b1, b2, b3⟩ := s_rank N (d + 16) n c A B M1 (by omega) hn q1 (fun k hk => ⟨(q4 k hk).1, by have := (q4 k hk).2.1; omega⟩) a2
    have fr : ∀ q i, ¬ (58 ≤ q ∧ q ≤ 63) → M2 q i = M q i := fun q i hq => (b3 q i (by omega) (by omega)).trans (a3 q i (by omega))
    have e1 : gEv N (d + 20) 72 [.inr (.inr 1), .inl a] M = some (M2, some (.inl (rkA n a (some (lbN A B c (2 ^ n - 1), bpN A B c (2 ^ n - 1)))))) := by
      refine c1.trans ?_
      rw [a1, gCv_some, b1, gCi_some, fr 6 0 (by omega), h6]
      unfold rkA
      by_cases h1 : a = -1
      · simp only [if_pos h1]
        simp (disch := omega) only [gInb_t, gLt_t, gLt_f, gEq_t, gEq_f, gIx_nat, gIx_id, gIf, cond_true, cond_false, gCi_some, gCv_some, gCr_some, gB01_0, gB01_1, gBi_01, gU_same, gU_off, gW_id, Int.toNat_natCast, Int.toNat_add, Int.toNat_mul, Int.reduceToNat, Nat.add_zero, Int.add_zero, bI_eq0, bI_B, Bool.not_true, Bool.not_false, bI_t, bI_f]
      · simp only [if_neg h1]
        by_cases h2 : a < (n : Int)
        · simp only [if_pos h2]
          rw [gIx_e (x := a) (n := a.toNat) (by omega) (by omega), b2 a.toNat (by omega)]
          simp (disch := omega) only [gInb_t, gLt_t, gLt_f, gEq_t, gEq_f, gIx_nat, gIx_id, gIf, cond_true, cond_false, gCi_some, gCv_some, gCr_some, gB01_0, gB01_1, gBi_01, gU_same, gU_off, gW_id, Int.toNat_natCast, Int.toNat_add, Int.toNat_mul, Int.reduceToNat, Nat.add_zero, Int.add_zero, bI_eq0, bI_B, Bool.not_true, Bool.not_false, bI_t, bI_f]
        · simp only [if_neg h2]
          simp (disch := omega) only [gInb_t, gLt_t, gLt_f, gEq_t, gEq_f, gIx_nat, gIx_id, gIf, cond_true, cond_false, gCi_some, gCv_some, gCr_some, gB01_0, gB01_1, gBi_01, gU_same, gU_off, gW_id, Int.toNat_natCast, Int.toNat_add, Int.toNat_mul, Int.reduceToNat, Nat.add_zero, Int.add_zero, bI_eq0, bI_B, Bool.not_true, Bool.not_false, bI_t, bI_f]
    obtain ⟨M3, f1, f2⟩ := s_mranked N (d + 17) n c A B a M2 (by omega) hn q1 h0 ((fr _ _ (by omega)).trans m29) ((fr _ _ (by omega)).trans q3) (fun k hk => by
      obtain ⟨x1, x2, x3, x4, x5, x6, x7⟩ := q4 k hk
      rw [Nat.zero_add] at x6 x7
      exact ⟨x1, x2, x3, (fr _ _ (by omega)).trans x6, (fr _ _ (by omega)).trans x7⟩)
    exact kPair_sc _ hI e1 f1 (fun q i hq => fr q i (by unfold kScr at hq; omega)) (fun q i hq => f2 q i (by unfold kScr at hq; omega))
  · rw [decide_eq_false h0] at c1
    refine kPair_ro (-3) hI (c1.trans ?_) ?_
    · simp (disch := omega) only [gInb_t, gLt_t, gLt_f, gEq_t, gEq_f, gIx_nat, gIx_id, gIf, cond_true, cond_false, gCi_some, gCv_some, gCr_some, gB01_0, gB01_1, gBi_01, gU_same, gU_off, gW_id, Int.toNat_natCast, Int.toNat_add, Int.toNat_mul, Int.reduceToNat, Nat.add_zero, Int.add_zero, bI_eq0, bI_B, Bool.not_true, Bool.not_false, bI_t, bI_f]
    · rw [q_X10_ranked, s_min N (d + 18) a (-1) 6 (((0 : Nat) : Int) - ((1 : Nat) : Int)) (((6 : Nat) : Int) - ((0 : Nat) : Int)) M ha (rng_c (by omega) (by omega)) (rng_c (by omega) (by omega)) rfl rfl, gCi_some, decide_eq_false h0]
      simp (disch := omega) only [gInb_t, gLt_t, gLt_f, gEq_t, gEq_f, gIx_nat, gIx_id, gIf, cond_true, cond_false, gCi_some, gCv_some, gCr_some, gB01_0, gB01_1, gBi_01, gU_same, gU_off, gW_id, Int.toNat_natCast, Int.toNat_add, Int.toNat_mul, Int.reduceToNat, Nat.add_zero, Int.add_zero, bI_eq0, bI_B, Bool.not_true, Bool.not_false, bI_t, bI_f]
