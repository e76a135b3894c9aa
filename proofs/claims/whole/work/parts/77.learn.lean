-- 77: the class learns the pairs; how many are broken by who goes first
theorem cB_snoc (f : Nat → Bool) : ∀ (r k : Nat), cB f k (r + 1) = cB f k r + cond (f (k + r)) 1 0
  | 0, k => by simp [cB]
  | r + 1, k => by
    have ih := cB_snoc f r (k + 1)
    rw [cB, ih, show k + 1 + r = k + (r + 1) by omega, cB]
    omega
theorem cB_one (f : Nat → Bool) (a : Nat) : ∀ (r k : Nat), (∀ j, k ≤ j → j < k + r → (f j = true ↔ j = a)) → k ≤ a → a < k + r → cB f k r = 1
  | 0, k, _, h1, h2 => by omega
  | r + 1, k, H, h1, h2 => by
    simp only [cB]
    by_cases hk : k = a
    · have e1 : f k = true := (H k (by omega) (by omega)).mpr hk
      have e2 : cB f (k + 1) r = 0 := (cB_zero f r (k + 1)).mpr (fun j h3 h4 => by
        cases hf : f j with
        | false => rfl
        | true => have := (H j (by omega) (by omega)).mp hf; omega)
      rw [e1, e2]
      rfl
    · have e1 : f k = false := by
        cases hf : f k with
        | false => rfl
        | true => exact absurd ((H k (by omega) (by omega)).mp hf) hk
      rw [e1, cB_one f a r (k + 1) (fun j h3 h4 => H j (by omega) (by omega)) (by omega) (by omega)]
      rfl
def sN (f : Nat → Nat) (k : Nat) : Nat → Nat
  | 0 => 0
  | r + 1 => f k + sN f (k + 1) r
theorem sN_zero (f : Nat → Nat) : ∀ (r k : Nat), (∀ j, k ≤ j → j < k + r → f j = 0) → sN f k r = 0
  | 0, _, _ => rfl
  | r + 1, k, h => by
    simp only [sN]
    rw [h k (by omega) (by omega), sN_zero f r (k + 1) (fun j h1 h2 => h j (by omega) (by omega))]
theorem sN_add (f g h : Nat → Nat) : ∀ (r k : Nat), (∀ j, k ≤ j → j < k + r → h j = f j + g j) → sN h k r = sN f k r + sN g k r
  | 0, _, _ => rfl
  | r + 1, k, H => by
    simp only [sN]
    rw [H k (by omega) (by omega), sN_add f g h r (k + 1) (fun j h1 h2 => H j (by omega) (by omega))]
    omega
theorem sN_cB (f : Nat → Bool) : ∀ (r k : Nat), sN (fun j => cond (f j) 1 0) k r = cB f k r
  | 0, _ => rfl
  | r + 1, k => by
    simp only [sN, cB]
    rw [sN_cB f r (k + 1)]
/-- how many pairs tell that a goes ahead of b -/
def tN (A B : Nat → Nat) (c j : Nat) : Nat := cB (fun i => A i * 7 + B i == j) 0 c
theorem sum_tN (A B : Nat → Nat) (n t x : Nat) (hx : x < 7) : ∀ (c : Nat), (∀ k, k < c → A k < n ∧ B k < 7) → sN (fun a => cond (t.testBit a) (tN A B c (a * 7 + x)) 0) 0 n = qn A B c t x
  | 0, _ => by
    rw [show qn A B 0 t x = 0 from rfl]
    refine sN_zero _ n 0 (fun j _ _ => ?_)
    cases t.testBit j <;> rfl
  | c + 1, h => by
    have ih := sum_tN A B n t x hx c (fun k hk => h k (by omega))
    obtain ⟨h1, h2⟩ := h c (by omega)
    have e : qn A B (c + 1) t x = qn A B c t x + cond ((B c == x) && t.testBit (A c)) 1 0 := by
      unfold qn
      rw [cB_snoc, Nat.zero_add]
    rw [e, ← ih]
    have e2 : sN (fun a => cond (t.testBit a && (A c * 7 + B c == a * 7 + x)) 1 0) 0 n = cond ((B c == x) && t.testBit (A c)) 1 0 := by
      rw [sN_cB]
      by_cases h3 : B c = x ∧ t.testBit (A c) = true
      · have h4 : ((B c == x) && t.testBit (A c)) = true := by simp [h3.1, h3.2]
        rw [h4]
        refine cB_one _ (A c) n 0 (fun j _ hj => ?_) (Nat.zero_le _) (by omega)
        constructor
        · intro q
          simp at q
          omega
        · intro q
          subst q
          simp [h3.1, h3.2]
      · have h4 : ((B c == x) && t.testBit (A c)) = false := by
          cases hq : ((B c == x) && t.testBit (A c)) with
          | false => rfl
          | true =>
            simp at hq
            exact absurd hq h3
        rw [h4]
        refine (cB_zero _ n 0).mpr (fun j _ hj => ?_)
        cases hq : (t.testBit j && (A c * 7 + B c == j * 7 + x)) with
        | false => rfl
        | true =>
          simp at hq
          have hAj : A c = j ∧ B c = x := by omega
          exact absurd ⟨hAj.2, by rw [hAj.1]; exact hq.1⟩ h3
    rw [← e2]
    refine sN_add _ _ _ n 0 (fun j _ _ => ?_)
    unfold tN
    rw [cB_snoc, Nat.zero_add]
    cases t.testBit j <;> simp
theorem tN_le (A B : Nat → Nat) (c j : Nat) : tN A B c j ≤ c := cB_le _ c 0
/-- what the class has learned -/
def lrn (M : gM) (n c : Nat) (A B : Nat → Nat) : Prop := M 58 0 = (n : Int) ∧ (∀ j, j < 49 → M 59 j = ((tN A B c j : Nat) : Int)) ∧ ∀ x, x < 7 → M 60 x = ((hm A B c x : Nat) : Int)
theorem l_l57 (C : gCl) (c : Nat) (x1 : Int) (A B : Nat → Nat) (M0 : gM) (hc : c ≤ 12) (h14 : M0 14 0 = (c : Int)) (hA : ∀ k, k < c → A k < 7 ∧ B k < 7 ∧ M0 15 k = ((A k : Nat) : Int) ∧ M0 16 k = ((B k : Nat) : Int)) : ∀ (r k z : Nat) (M : gM), k + r = c → r < z → (∀ q i, q ≠ 59 → q ≠ 60 → M q i = M0 q i) → (∀ j, j < 49 → M 59 j = ((tN A B k j : Nat) : Int)) → (∀ x, x < 7 → M 60 x = ((hm A B k x : Nat) : Int)) → ∃ M', L_X3_learn_57 C z x1 (k : Int) M = some (M', none) ∧ (∀ j, j < 49 → M' 59 j = ((tN A B c j : Nat) : Int)) ∧ (∀ x, x < 7 → M' 60 x = ((hm A B c x : Nat) : Int)) ∧ ∀ q i, q ≠ 59 → q ≠ 60 → M' q i = M0 q i := by
  intro r
  induction r with
  | zero =>
    intro k z M hk hz hf h1 h2
    obtain ⟨z, rfl⟩ : ∃ y, z = y + 1 := ⟨z - 1, by omega⟩
    have : k = c := by omega
    subst this
    refine ⟨M, ?_, h1, h2, hf⟩
    rw [q_X3_learn_57, hf 14 0 (by omega) (by omega), h14]
    simp (disch := omega) only [gInb_t, gLt_t, gLt_f, gEq_t, gEq_f, gIx_nat, gIx_id, gIf, cond_true, cond_false, gCi_some, gCv_some, gCr_some, gB01_0, gB01_1, gBi_01, gU_same, gU_off, gW_id, Int.toNat_natCast, Int.toNat_add, Int.toNat_mul, Int.reduceToNat, Nat.add_zero, Int.add_zero]
  | succ r ih =>
    intro k z M hk hz hf h1 h2
    obtain ⟨z, rfl⟩ : ∃ y, z = y + 1 := ⟨z - 1, by omega⟩
    obtain ⟨a1, a2, a3, a4⟩ := hA k (by omega)
    have hlt := hm_lt A B k (fun j hj => by
      obtain ⟨b1, b2, _⟩ := hA j (by omega)
      exact ⟨b1, b2⟩)
    have m15 : M 15 k = ((A k : Nat) : Int) := (hf _ _ (by omega) (by omega)).trans a3
    have m16 : M 16 k = ((B k : Nat) : Int) := (hf _ _ (by omega) (by omega)).trans a4
    have hj49 : A k * 7 + B k < 49 := by omega
    have ij := gIx_e (x := ((A k : Nat) : Int) * 7 + ((B k : Nat) : Int)) (n := A k * 7 + B k) (by omega) (by omega)
    obtain ⟨M', g1, g2⟩ := ih (k + 1) z (gU (gU M 59 (A k * 7 + B k) (M 59 (A k * 7 + B k) + 1)) 60 (B k) ((ob (hm A B k (B k)) (A k) : Nat) : Int)) (by omega) (by omega) (fun q i q1 q2 => by
      rw [gU_off _ _ (by omega), gU_off _ _ (by omega)]; exact hf q i q1 q2) (fun j hj => by
      have e : tN A B (k + 1) j = tN A B k j + cond (A k * 7 + B k == j) 1 0 := by unfold tN; rw [cB_snoc, Nat.zero_add]
      rw [gU_off _ _ (by omega), e]
      by_cases hjk : j = A k * 7 + B k
      · subst hjk
        rw [gU_same, h1 _ hj]
        simp
      · rw [gU_off _ _ (by omega), h1 j hj]
        have : (A k * 7 + B k == j) = false := by simp; exact fun q => hjk q.symm
        rw [this]
        rfl) (fun x hx => by
      simp only [hm, upH]
      by_cases hxb : x = B k
      · subst hxb
        rw [gU_same, if_pos rfl]
      · rw [gU_off _ _ (by omega), gU_off _ _ (by omega), if_neg hxb]
        exact h2 x hx)
    refine ⟨M', ?_, g2⟩
    rw [q_X3_learn_57, hf 14 0 (by omega) (by omega), h14, gIx_e (x := (k : Int)) (n := k) rfl (by omega), m15, m16, ij, gU_off _ _ (show ¬ (16 = 59 ∧ k = A k * 7 + B k) by omega), gU_off _ _ (show ¬ (15 = 59 ∧ k = A k * 7 + B k) by omega), m15, m16, gIx_e (x := ((B k : Nat) : Int)) (n := B k) rfl (by omega), gU_off _ _ (show ¬ (60 = 59 ∧ B k = A k * 7 + B k) by omega), h2 _ a2, m_ob _ (hlt _) _ a1, cast_1 k, g1]
    simp (disch := omega) only [gInb_t, gLt_t, gLt_f, gEq_t, gEq_f, gIx_nat, gIx_id, gIf, cond_true, cond_false, gCi_some, gCv_some, gCr_some, gB01_0, gB01_1, gBi_01, gU_same, gU_off, gW_id, Int.toNat_natCast, Int.toNat_add, Int.toNat_mul, Int.reduceToNat, Nat.add_zero, Int.add_zero]
theorem l_l36 (C : gCl) (x1 : Int) : ∀ (r k z : Nat) (M : gM), k + r = 7 → r < z → (∀ i, i < k → M 60 i = 0) → ∃ z' M', z ≤ z' + r + 1 ∧ L_X3_learn_36 C z x1 (k : Int) M = L_X3_learn_57 C z' x1 0 M' ∧ (∀ i, i < 7 → M' 60 i = 0) ∧ ∀ q i, q ≠ 60 → M' q i = M q i := by
  intro r
  induction r with
  | zero =>
    intro k z M hk hz h
    obtain ⟨z, rfl⟩ : ∃ y, z = y + 1 := ⟨z - 1, by omega⟩
    refine ⟨z, M, by omega, ?_, fun i hi => h i (by omega), fun _ _ _ => rfl⟩
    rw [q_X3_learn_36, gLt_f (by omega) (by omega) (by omega), cond_false]
  | succ r ih =>
    intro k z M hk hz h
    obtain ⟨z, rfl⟩ : ∃ y, z = y + 1 := ⟨z - 1, by omega⟩
    obtain ⟨z', M', g0, g1, g2, g3⟩ := ih (k + 1) z (gU M 60 k 0) (by omega) (by omega) (fun i hi => by
      by_cases hik : i = k
      · subst hik; rw [gU_same]
      · rw [gU_off _ _ (by omega)]; exact h i (by omega))
    refine ⟨z', M', by omega, ?_, g2, fun q i hq => (g3 q i hq).trans (gU_off _ _ (by omega))⟩
    rw [q_X3_learn_36, gIx_e (x := (k : Int)) (n := k) rfl (by omega), cast_1 k, ← g1]
    simp (disch := omega) only [gInb_t, gLt_t, gLt_f, gEq_t, gEq_f, gIx_nat, gIx_id, gIf, cond_true, cond_false, gCi_some, gCv_some, gCr_some, gB01_0, gB01_1, gBi_01, gU_same, gU_off, gW_id, Int.toNat_natCast, Int.toNat_add, Int.toNat_mul, Int.reduceToNat, Nat.add_zero, Int.add_zero]
theorem l_l12 (C : gCl) (x1 : Int) : ∀ (r k z : Nat) (M : gM), k + r = 49 → r < z → (∀ i, i < k → M 59 i = 0) → ∃ z' M', z ≤ z' + r + 1 ∧ L_X3_learn_12 C z x1 (k : Int) M = L_X3_learn_36 C z' x1 0 M' ∧ (∀ i, i < 49 → M' 59 i = 0) ∧ ∀ q i, q ≠ 59 → M' q i = M q i := by
  intro r
  induction r with
  | zero =>
    intro k z M hk hz h
    obtain ⟨z, rfl⟩ : ∃ y, z = y + 1 := ⟨z - 1, by omega⟩
    refine ⟨z, M, by omega, ?_, fun i hi => h i (by omega), fun _ _ _ => rfl⟩
    rw [q_X3_learn_12, gLt_f (by omega) (by omega) (by omega), cond_false]
  | succ r ih =>
    intro k z M hk hz h
    obtain ⟨z, rfl⟩ : ∃ y, z = y + 1 := ⟨z - 1, by omega⟩
    obtain ⟨z', M', g0, g1, g2, g3⟩ := ih (k + 1) z (gU M 59 k 0) (by omega) (by omega) (fun i hi => by
      by_cases hik : i = k
      · subst hik; rw [gU_same]
      · rw [gU_off _ _ (by omega)]; exact h i (by omega))
    refine ⟨z', M', by omega, ?_, g2, fun q i hq => (g3 q i hq).trans (gU_off _ _ (by omega))⟩
    rw [q_X3_learn_12, gIx_e (x := (k : Int)) (n := k) rfl (by omega), cast_1 k, ← g1]
    simp (disch := omega) only [gInb_t, gLt_t, gLt_f, gEq_t, gEq_f, gIx_nat, gIx_id, gIf, cond_true, cond_false, gCi_some, gCv_some, gCr_some, gB01_0, gB01_1, gBi_01, gU_same, gU_off, gW_id, Int.toNat_natCast, Int.toNat_add, Int.toNat_mul, Int.reduceToNat, Nat.add_zero, Int.add_zero]
theorem s_learn (N d n c : Nat) (A B : Nat → Nat) (M : gM) (hN : 1000 ≤ N) (hn : n ≤ 7) (hc : c ≤ 12) (h14 : M 14 0 = (c : Int)) (hA : ∀ k, k < c → A k < 7 ∧ B k < 7 ∧ M 15 k = ((A k : Nat) : Int) ∧ M 16 k = ((B k : Nat) : Int)) : ∃ M', gEv N (d + 1) 15 [.inr (.inr 59), .inl (n : Int), .inr (.inr 15)] M = some (M', none) ∧ lrn M' n c A B ∧ ∀ q i, ¬ (58 ≤ q ∧ q ≤ 60) → M' q i = M q i := by
  have hmin : gMin (n : Int) 7 = (n : Int) := by
    rw [gMin_id (by omega) (by omega) (by omega) (by omega)]
    split <;> omega
  have e := q_X3_learn N d (n : Int) M
  rw [hmin] at e
  obtain ⟨z1, M1, a0, a1, a2, a3⟩ := l_l12 (gEv N d) (n : Int) 49 0 N (gU M 58 0 (n : Int)) (by omega) (by omega) (fun i hi => absurd hi (Nat.not_lt_zero i))
  obtain ⟨z2, M2, b0, b1, b2, b3⟩ := l_l36 (gEv N d) (n : Int) 7 0 z1 M1 (by omega) (by omega) (fun i hi => absurd hi (Nat.not_lt_zero i))
  have fr : ∀ q i, ¬ (58 ≤ q ∧ q ≤ 60) → M2 q i = M q i := fun q i hq => (b3 q i (by omega)).trans ((a3 q i (by omega)).trans (gU_off _ _ (by omega)))
  obtain ⟨M3, c1, c2, c3, c4⟩ := l_l57 (gEv N d) c (n : Int) A B M2 hc ((fr _ _ (by omega)).trans h14) (fun k hk => by
    obtain ⟨x1, x2, x3, x4⟩ := hA k hk
    exact ⟨x1, x2, (fr _ _ (by omega)).trans x3, (fr _ _ (by omega)).trans x4⟩) c 0 z2 M2 (by omega) (by omega) (fun _ _ _ _ => rfl) (fun j hj => by rw [b3 _ _ (by omega), a2 j hj]; rfl) (fun x hx => by rw [b2 x hx]; rfl)
  refine ⟨M3, ((e.trans a1).trans b1).trans c1, ⟨?_, c2, c3⟩, fun q i hq => (c4 q i (by omega) (by omega)).trans (fr q i hq)⟩
  rw [c4 _ _ (by omega) (by omega), b3 _ _ (by omega), a3 _ _ (by omega), gU_same]
theorem l_bf19 (C : gCl) (n x : Nat) (x1 : Int) (t : Nat) (T : Nat → Nat) (M : gM) (hn : n ≤ 7) (ht : t < 128) (hx : x < 7) (h58 : M 58 0 = (n : Int)) (hT : ∀ j, j < 49 → M 59 j = ((T j : Nat) : Int)) : ∀ (r k z : Nat) (a : Nat), k + r = n → r < z → L_X3_brokenFrom_19 C z x1 (x : Int) (t : Int) (a : Int) (k : Int) M = some (M, some (.inl ((a + sN (fun a => cond (t.testBit a) (T (a * 7 + x)) 0) k r : Nat) : Int))) := by
  intro r
  induction r with
  | zero =>
    intro k z a hk hz
    obtain ⟨z, rfl⟩ : ∃ y, z = y + 1 := ⟨z - 1, by omega⟩
    rw [q_X3_brokenFrom_19, h58]
    simp (disch := omega) only [gInb_t, gLt_t, gLt_f, gEq_t, gEq_f, gIx_nat, gIx_id, gIf, cond_true, cond_false, gCi_some, gCv_some, gCr_some, gB01_0, gB01_1, gBi_01, gU_same, gU_off, gW_id, Int.toNat_natCast, Int.toNat_add, Int.toNat_mul, Int.reduceToNat, Nat.add_zero, Int.add_zero, sN]
  | succ r ih =>
    intro k z a hk hz
    obtain ⟨z, rfl⟩ : ∃ y, z = y + 1 := ⟨z - 1, by omega⟩
    rw [q_X3_brokenFrom_19, h58, m_bit t ht k (by omega), gIx_e (x := (k : Int) * 7 + (x : Int)) (n := k * 7 + x) (by omega) (by omega), hT (k * 7 + x) (by omega), cast_1 k, show (a : Int) + ((T (k * 7 + x) : Nat) : Int) = ((a + T (k * 7 + x) : Nat) : Int) by omega, ih (k + 1) z _ (by omega) (by omega), ih (k + 1) z _ (by omega) (by omega)]
    simp only [sN]
    cases hb : t.testBit k with
    | true =>
      simp only [bI, cond_true]
      simp (disch := omega) only [gInb_t, gLt_t, gLt_f, gEq_t, gEq_f, gIx_nat, gIx_id, gIf, cond_true, cond_false, gCi_some, gCv_some, gCr_some, gB01_0, gB01_1, gBi_01, gU_same, gU_off, gW_id, Int.toNat_natCast, Int.toNat_add, Int.toNat_mul, Int.reduceToNat, Nat.add_zero, Int.add_zero]
      rw [Nat.add_assoc]
    | false =>
      simp only [bI, cond_false, Nat.zero_add]
      simp (disch := omega) only [gInb_t, gLt_t, gLt_f, gEq_t, gEq_f, gIx_nat, gIx_id, gIf, cond_true, cond_false, gCi_some, gCv_some, gCr_some, gB01_0, gB01_1, gBi_01, gU_same, gU_off, gW_id, Int.toNat_natCast, Int.toNat_add, Int.toNat_mul, Int.reduceToNat, Nat.add_zero, Int.add_zero]
theorem s_bfrom (N d n c s x : Nat) (A B : Nat → Nat) (M : gM) (hN : 100 ≤ N) (hn : n ≤ 7) (hs : s < 128) (hx : x < 7) (hA : ∀ k, k < c → A k < n ∧ B k < 7) (hL : lrn M n c A B) (h61 : M 61 (rs s x) = ((lbN A B c (rs s x) : Nat) : Int)) : gEv N (d + 1) 18 [.inr (.inr 59), .inl (s : Int), .inl (x : Int)] M = some (M, some (.inl ((vlN A B c s x : Nat) : Int))) := by
  have hr := rs_le s hs x hx
  rw [q_X3_brokenFrom, m_rs s hs x hx, gIx_e (x := ((rs s x : Nat) : Int)) (n := rs s x) rfl (by omega), h61, gInb_t (by omega) (by omega) (by omega), gIf_t]
  have := l_bf19 (gEv N d) n x (s : Int) (rs s x) (tN A B c) M hn (by omega) hx hL.1 hL.2.1 n 0 N (lbN A B c (rs s x)) (by omega) (by omega)
  rw [sum_tN A B n (rs s x) x hx c hA] at this
  exact this
