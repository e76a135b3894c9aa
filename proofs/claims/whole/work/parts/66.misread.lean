-- 66: misread
def wq (q k : Int) : Int := if k = 0 then 20 - 2 * q else q
def tm (q x k m : Int) : Int := if m < x + k then wq q k * wq q m else 0
def abR (q x k a : Int) : Int := a + tm q x k (-1) + tm q x k 0 + tm q x k 1
def abv (q x : Int) : Int := abR q x 1 (abR q x 0 (abR q x (-1) 0))
theorem tm_bd {q x k m : Int} (h : 0 ≤ wq q k * wq q m) : 0 ≤ tm q x k m ∧ tm q x k m ≤ wq q k * wq q m := by
  unfold tm
  split
  · exact ⟨h, Int.le_refl _⟩
  · exact ⟨Int.le_refl _, h⟩
theorem abv_bd {q x : Int} (h : 0 ≤ q ∧ q ≤ 10) : 0 ≤ abv q x ∧ abv q x ≤ 400 := by
  have w0 : wq q 0 = 20 - 2 * q := rfl
  have w1 : wq q 1 = q := rfl
  have w2 : wq q (-1) = q := rfl
  have go : ∀ n : Int, q = n → 0 ≤ n ∧ n ≤ 10 → (0 ≤ n * n ∧ 0 ≤ n * (20 - 2 * n) ∧ 0 ≤ (20 - 2 * n) * n ∧ 0 ≤ (20 - 2 * n) * (20 - 2 * n)) → (4 * (n * n) + 2 * (n * (20 - 2 * n)) + 2 * ((20 - 2 * n) * n) + (20 - 2 * n) * (20 - 2 * n) ≤ 400) → 0 ≤ abv q x ∧ abv q x ≤ 400 := by
    intro n hq hn h4 h5
    have t1 := tm_bd (q := q) (x := x) (k := -1) (m := -1) (by rw [w2, hq]; exact h4.1)
    have t2 := tm_bd (q := q) (x := x) (k := -1) (m := 0) (by rw [w2, w0, hq]; exact h4.2.1)
    have t3 := tm_bd (q := q) (x := x) (k := -1) (m := 1) (by rw [w2, w1, hq]; exact h4.1)
    have t4 := tm_bd (q := q) (x := x) (k := 0) (m := -1) (by rw [w2, w0, hq]; exact h4.2.2.1)
    have t5 := tm_bd (q := q) (x := x) (k := 0) (m := 0) (by rw [w0, hq]; exact h4.2.2.2)
    have t6 := tm_bd (q := q) (x := x) (k := 0) (m := 1) (by rw [w0, w1, hq]; exact h4.2.2.1)
    have t7 := tm_bd (q := q) (x := x) (k := 1) (m := -1) (by rw [w2, w1, hq]; exact h4.1)
    have t8 := tm_bd (q := q) (x := x) (k := 1) (m := 0) (by rw [w1, w0, hq]; exact h4.2.1)
    have t9 := tm_bd (q := q) (x := x) (k := 1) (m := 1) (by rw [w1, hq]; exact h4.1)
    rw [w0, w1, w2, hq] at *
    unfold abv abR
    omega
  rcases (by omega : q = 0 ∨ q = 1 ∨ q = 2 ∨ q = 3 ∨ q = 4 ∨ q = 5 ∨ q = 6 ∨ q = 7 ∨ q = 8 ∨ q = 9 ∨ q = 10) with e | e | e | e | e | e | e | e | e | e | e
  all_goals exact go _ e (by decide) (by decide) (by decide)
theorem s_off (N d : Nat) (k q : Int) (M : gM) (hk : rng k) : gEv N (d + 1) 97 [.inl k, .inl q] M = some (M, some (.inl (wq q k))) := by
  obtain ⟨k1, k2⟩ := hk
  rw [q_X9_readingsOff]
  unfold wq
  by_cases h : k = 0
  · rw [if_pos h]; simp (disch := omega) only [gInb_t, gLt_t, gLt_f, gEq_t, gEq_f, gIx_nat, gIx_id, gIf, cond_true, cond_false, gCi_some, gCv_some, gCr_some, gB01_0, gB01_1, gBi_01, gU_same, gU_off, gW_id, Int.toNat_natCast, Int.toNat_add, Int.toNat_mul, Int.reduceToNat, Nat.add_zero, Int.add_zero, bI_eq0, bI_B, Bool.not_true, Bool.not_false, bI_t, bI_f]
  · rw [if_neg h]; simp (disch := omega) only [gInb_t, gLt_t, gLt_f, gEq_t, gEq_f, gIx_nat, gIx_id, gIf, cond_true, cond_false, gCi_some, gCv_some, gCr_some, gB01_0, gB01_1, gBi_01, gU_same, gU_off, gW_id, Int.toNat_natCast, Int.toNat_add, Int.toNat_mul, Int.reduceToNat, Nat.add_zero, Int.add_zero, bI_eq0, bI_B, Bool.not_true, Bool.not_false, bI_t, bI_f]
theorem s_xabove (N d : Nat) (q x : Int) (M : gM) (hN : 100 ≤ N) (hx : -9 ≤ x ∧ x ≤ 9) : gEv N (d + 2) 96 [.inl x, .inl q] M = some (M, some (.inl (abv q x))) := by
  rw [q_X9_readingsAsGreater]
  have st : ∀ (y : Nat) (a k m : Int), 1 ≤ y → -1 ≤ k → k ≤ 1 → -1 ≤ m → m ≤ 1 → L_X9_readingsAsGreater_12 (gEv N (d + 1)) y x q a k m M = L_X9_readingsAsGreater_12 (gEv N (d + 1)) (y - 1) x q (a + tm q x k m) k (m + 1) M := fun y a k m hy k1 k2 m1 m2 => by
    obtain ⟨y, rfl⟩ : ∃ z, y = z + 1 := ⟨y - 1, by omega⟩
    rw [q_X9_readingsAsGreater_12, s_off N d k q M (rng_c (by omega) (by omega)), gCi_some, s_off N d m q M (rng_c (by omega) (by omega)), gCi_some, Nat.add_sub_cancel]
    unfold tm
    by_cases h : m < x + k
    · rw [if_pos h]; simp (disch := omega) only [gInb_t, gLt_t, gLt_f, gEq_t, gEq_f, gIx_nat, gIx_id, gIf, cond_true, cond_false, gCi_some, gCv_some, gCr_some, gB01_0, gB01_1, gBi_01, gU_same, gU_off, gW_id, Int.toNat_natCast, Int.toNat_add, Int.toNat_mul, Int.reduceToNat, Nat.add_zero, Int.add_zero, bI_eq0, bI_B, Bool.not_true, Bool.not_false, bI_t, bI_f]
    · rw [if_neg h]; simp (disch := omega) only [gInb_t, gLt_t, gLt_f, gEq_t, gEq_f, gIx_nat, gIx_id, gIf, cond_true, cond_false, gCi_some, gCv_some, gCr_some, gB01_0, gB01_1, gBi_01, gU_same, gU_off, gW_id, Int.toNat_natCast, Int.toNat_add, Int.toNat_mul, Int.reduceToNat, Nat.add_zero, Int.add_zero, bI_eq0, bI_B, Bool.not_true, Bool.not_false, bI_t, bI_f]
  have ed : ∀ (y : Nat) (a k : Int), 1 ≤ y → L_X9_readingsAsGreater_12 (gEv N (d + 1)) y x q a k 2 M = L_X9_readingsAsGreater_4 (gEv N (d + 1)) (y - 1) x q a (k + 1) M := fun y a k hy => by
    obtain ⟨y, rfl⟩ : ∃ z, y = z + 1 := ⟨y - 1, by omega⟩
    rw [q_X9_readingsAsGreater_12, Nat.add_sub_cancel]
    simp (disch := omega) only [gInb_t, gLt_t, gLt_f, gEq_t, gEq_f, gIx_nat, gIx_id, gIf, cond_true, cond_false, gCi_some, gCv_some, gCr_some, gB01_0, gB01_1, gBi_01, gU_same, gU_off, gW_id, Int.toNat_natCast, Int.toNat_add, Int.toNat_mul, Int.reduceToNat, Nat.add_zero, Int.add_zero, bI_eq0, bI_B, Bool.not_true, Bool.not_false, bI_t, bI_f]
  have row : ∀ (y : Nat) (a k : Int), 6 ≤ y → -1 ≤ k → k ≤ 1 → L_X9_readingsAsGreater_4 (gEv N (d + 1)) y x q a k M = L_X9_readingsAsGreater_4 (gEv N (d + 1)) (y - 1 - 1 - 1 - 1 - 1) x q (abR q x k a) (k + 1) M := fun y a k hy k1 k2 => by
    obtain ⟨y, rfl⟩ : ∃ z, y = z + 1 := ⟨y - 1, by omega⟩
    have e1 := st y a k (-1) (by omega) k1 k2 (by omega) (by omega)
    have e2 := st (y - 1) (a + tm q x k (-1)) k 0 (by omega) k1 k2 (by omega) (by omega)
    have e3 := st (y - 1 - 1) (a + tm q x k (-1) + tm q x k 0) k 1 (by omega) k1 k2 (by omega) (by omega)
    have e4 := ed (y - 1 - 1 - 1) (a + tm q x k (-1) + tm q x k 0 + tm q x k 1) k (by omega)
    rw [show (-1 : Int) + 1 = 0 from rfl] at e1
    rw [show (0 : Int) + 1 = 1 from rfl] at e2
    rw [show (1 : Int) + 1 = 2 from rfl] at e3
    rw [q_X9_readingsAsGreater_4, gLt_f (by omega) (by omega) (by omega), cond_false, e1, e2, e3, e4, Nat.add_sub_cancel]
    rfl
  have r1 := row N 0 (-1) (by omega) (by omega) (by omega)
  have r2 := row (N - 1 - 1 - 1 - 1 - 1) (abR q x (-1) 0) 0 (by omega) (by omega) (by omega)
  have r3 := row (N - 1 - 1 - 1 - 1 - 1 - 1 - 1 - 1 - 1 - 1) (abR q x 0 (abR q x (-1) 0)) 1 (by omega) (by omega) (by omega)
  rw [show (-1 : Int) + 1 = 0 from rfl] at r1
  rw [show (0 : Int) + 1 = 1 from rfl] at r2
  rw [show (1 : Int) + 1 = 2 from rfl] at r3
  have r4 : ∀ (y : Nat) (a : Int), 1 ≤ y → L_X9_readingsAsGreater_4 (gEv N (d + 1)) y x q a 2 M = some (M, some (.inl a)) := fun y a hy => by
    obtain ⟨y, rfl⟩ : ∃ z, y = z + 1 := ⟨y - 1, by omega⟩
    rw [q_X9_readingsAsGreater_4]
    simp (disch := omega) only [gInb_t, gLt_t, gLt_f, gEq_t, gEq_f, gIx_nat, gIx_id, gIf, cond_true, cond_false, gCi_some, gCv_some, gCr_some, gB01_0, gB01_1, gBi_01, gU_same, gU_off, gW_id, Int.toNat_natCast, Int.toNat_add, Int.toNat_mul, Int.reduceToNat, Nat.add_zero, Int.add_zero, bI_eq0, bI_B, Bool.not_true, Bool.not_false, bI_t, bI_f]
  rw [r1, r2, r3, r4 _ _ (by omega)]
  rfl
theorem gcd_step (x y : Nat) : Nat.gcd y (x % y) = Nat.gcd x y := by
  rw [Nat.gcd_comm y (x % y), ← Nat.gcd_rec, Nat.gcd_comm]
theorem l_xgcd (C : gCl) (x0 x1 : Int) (M : gM) : ∀ (b x y k z : Nat), y ≤ b → k + b ≤ 400 → b < z → 1 ≤ x → x ≤ 400 → L_X9_commonDivisor_7 C z x0 x1 (x : Int) (y : Int) (k : Int) M = some (M, some (.inl ((Nat.gcd x y : Nat) : Int))) := by
  intro b
  have fin : ∀ (x z k : Nat), 1 ≤ x → x ≤ 400 → k ≤ 400 → L_X9_commonDivisor_7 C (z + 1) x0 x1 (x : Int) ((0 : Nat) : Int) (k : Int) M = some (M, some (.inl ((Nat.gcd x 0 : Nat) : Int))) := fun x z k h1 h2 h3 => by
    rw [q_X9_commonDivisor_7, Nat.gcd_zero_right, gMax_id (by omega) (by omega) (by omega) (by omega), if_neg (by omega)]
    by_cases h4 : k < 400
    · simp (disch := omega) only [gInb_t, gLt_t, gLt_f, gEq_t, gEq_f, gIx_nat, gIx_id, gIf, cond_true, cond_false, gCi_some, gCv_some, gCr_some, gB01_0, gB01_1, gBi_01, gU_same, gU_off, gW_id, Int.toNat_natCast, Int.toNat_add, Int.toNat_mul, Int.reduceToNat, Nat.add_zero, Int.add_zero, bI_eq0, bI_B, Bool.not_true, Bool.not_false, bI_t, bI_f]
    · simp (disch := omega) only [gInb_t, gLt_t, gLt_f, gEq_t, gEq_f, gIx_nat, gIx_id, gIf, cond_true, cond_false, gCi_some, gCv_some, gCr_some, gB01_0, gB01_1, gBi_01, gU_same, gU_off, gW_id, Int.toNat_natCast, Int.toNat_add, Int.toNat_mul, Int.reduceToNat, Nat.add_zero, Int.add_zero, bI_eq0, bI_B, Bool.not_true, Bool.not_false, bI_t, bI_f]
  induction b with
  | zero =>
    intro x y k z hy hk hz h1 h2
    obtain ⟨z, rfl⟩ : ∃ q, z = q + 1 := ⟨z - 1, by omega⟩
    have : y = 0 := by omega
    subst this
    exact fin x z k h1 h2 (by omega)
  | succ b ih =>
    intro x y k z hy hk hz h1 h2
    obtain ⟨z, rfl⟩ : ∃ q, z = q + 1 := ⟨z - 1, by omega⟩
    by_cases h0 : y = 0
    · subst h0
      exact fin x z k h1 h2 (by omega)
    · have hlt : x % y < y := Nat.mod_lt _ (by omega)
      have hr : gRem (x : Int) (y : Int) = ((x % y : Nat) : Int) := by
        rw [gRem_id (by omega) (by omega) (by omega) (by omega)]
        rfl
      have := ih y (x % y) (k + 1) z (by omega) (by omega) (by omega) (by omega) (by omega)
      rw [gcd_step] at this
      rw [q_X9_commonDivisor_7, hr, cast_1 k, this]
      simp (disch := omega) only [gInb_t, gLt_t, gLt_f, gEq_t, gEq_f, gIx_nat, gIx_id, gIf, cond_true, cond_false, gCi_some, gCv_some, gCr_some, gB01_0, gB01_1, gBi_01, gU_same, gU_off, gW_id, Int.toNat_natCast, Int.toNat_add, Int.toNat_mul, Int.reduceToNat, Nat.add_zero, Int.add_zero, bI_eq0, bI_B, Bool.not_true, Bool.not_false, bI_t, bI_f]
theorem l_mgcd (C : gCl) (x1 x2 x3 x4 x5 x6 x7 : Int) (M : gM) (h4 : rng x4) : ∀ (b x y z : Nat), y ≤ b → b < z → x ≤ 400 → 1 ≤ y ∨ 1 ≤ x → y ≤ 400 → L_X10_misread_159 C z x1 x2 x3 x4 x5 x6 x7 (x : Int) (y : Int) M = some (M, some (.inl (if x4 = 0 then gDiv x7 ((Nat.gcd x y : Nat) : Int) else gDiv 400 ((Nat.gcd x y : Nat) : Int)))) := by
  intro b
  obtain ⟨h5, h6⟩ := h4
  have fin : ∀ (x z : Nat), 1 ≤ x → x ≤ 400 → L_X10_misread_159 C (z + 1) x1 x2 x3 x4 x5 x6 x7 (x : Int) ((0 : Nat) : Int) M = some (M, some (.inl (if x4 = 0 then gDiv x7 ((Nat.gcd x 0 : Nat) : Int) else gDiv 400 ((Nat.gcd x 0 : Nat) : Int)))) := fun x z h1 h2 => by
    rw [q_X10_misread_159, Nat.gcd_zero_right]
    by_cases h4 : x4 = 0
    · rw [if_pos h4]; simp (disch := omega) only [gInb_t, gLt_t, gLt_f, gEq_t, gEq_f, gIx_nat, gIx_id, gIf, cond_true, cond_false, gCi_some, gCv_some, gCr_some, gB01_0, gB01_1, gBi_01, gU_same, gU_off, gW_id, Int.toNat_natCast, Int.toNat_add, Int.toNat_mul, Int.reduceToNat, Nat.add_zero, Int.add_zero, bI_eq0, bI_B, Bool.not_true, Bool.not_false, bI_t, bI_f]
    · rw [if_neg h4]; simp (disch := omega) only [gInb_t, gLt_t, gLt_f, gEq_t, gEq_f, gIx_nat, gIx_id, gIf, cond_true, cond_false, gCi_some, gCv_some, gCr_some, gB01_0, gB01_1, gBi_01, gU_same, gU_off, gW_id, Int.toNat_natCast, Int.toNat_add, Int.toNat_mul, Int.reduceToNat, Nat.add_zero, Int.add_zero, bI_eq0, bI_B, Bool.not_true, Bool.not_false, bI_t, bI_f]
  induction b with
  | zero =>
    intro x y z hy hz h2 h1 h3
    obtain ⟨z, rfl⟩ : ∃ q, z = q + 1 := ⟨z - 1, by omega⟩
    have : y = 0 := by omega
    subst this
    exact fin x z (by omega) h2
  | succ b ih =>
    intro x y z hy hz h2 h1 h3
    obtain ⟨z, rfl⟩ : ∃ q, z = q + 1 := ⟨z - 1, by omega⟩
    by_cases h0 : y = 0
    · subst h0
      exact fin x z (by omega) h2
    · have hlt : x % y < y := Nat.mod_lt _ (by omega)
      have hr : gRem (x : Int) (y : Int) = ((x % y : Nat) : Int) := by
        rw [gRem_id (by omega) (by omega) (by omega) (by omega)]
        rfl
      have := ih y (x % y) z (by omega) (by omega) (by omega) (by omega) (by omega)
      rw [gcd_step] at this
      rw [q_X10_misread_159, hr, this]
      simp (disch := omega) only [gInb_t, gLt_t, gLt_f, gEq_t, gEq_f, gIx_nat, gIx_id, gIf, cond_true, cond_false, gCi_some, gCv_some, gCr_some, gB01_0, gB01_1, gBi_01, gU_same, gU_off, gW_id, Int.toNat_natCast, Int.toNat_add, Int.toNat_mul, Int.reduceToNat, Nat.add_zero, Int.add_zero, bI_eq0, bI_B, Bool.not_true, Bool.not_false, bI_t, bI_f]
theorem l_mabove (C : gCl) (x1 x2 q x4 u w : Int) (M : gM) (hu : 0 ≤ u ∧ u ≤ 9) (hw : 0 ≤ w ∧ w ≤ 9) (z : Nat) (hz : 100 ≤ z) : ∃ z', z ≤ z' + 60 ∧ L_X10_misread_66 C z x1 x2 q x4 u w 0 (-1) M = L_X10_misread_159 C z' x1 x2 q x4 u w (abv q (u - w)) (abv q (u - w)) 400 M := by
  have st : ∀ (y : Nat) (a k m : Int), 2 ≤ y → -1 ≤ k → k ≤ 1 → -1 ≤ m → m ≤ 1 → L_X10_misread_75 C y x1 x2 q x4 u w a k m M = L_X10_misread_75 C (y - 1 - 1) x1 x2 q x4 u w (a + tm q (u - w) k m) k (m + 1) M := fun y a k m hy k1 k2 m1 m2 => by
    obtain ⟨y, rfl⟩ : ∃ z, y = z + 1 + 1 := ⟨y - 2, by omega⟩
    have e96 : ∀ s0, L_X10_misread_96 C (y + 1) x1 x2 q x4 u w a k m s0 M = L_X10_misread_75 C y x1 x2 q x4 u w (a + (if m < (u - w) + k then s0 * wq q m else 0)) k (m + 1) M := fun s0 => by
      rw [q_X10_misread_96]
      unfold wq
      by_cases h0 : m = 0
      · rw [if_pos h0]
        by_cases h : m < (u - w) + k
        · rw [if_pos h]; simp (disch := omega) only [gInb_t, gLt_t, gLt_f, gEq_t, gEq_f, gIx_nat, gIx_id, gIf, cond_true, cond_false, gCi_some, gCv_some, gCr_some, gB01_0, gB01_1, gBi_01, gU_same, gU_off, gW_id, Int.toNat_natCast, Int.toNat_add, Int.toNat_mul, Int.reduceToNat, Nat.add_zero, Int.add_zero, bI_eq0, bI_B, Bool.not_true, Bool.not_false, bI_t, bI_f]
        · rw [if_neg h]; simp (disch := omega) only [gInb_t, gLt_t, gLt_f, gEq_t, gEq_f, gIx_nat, gIx_id, gIf, cond_true, cond_false, gCi_some, gCv_some, gCr_some, gB01_0, gB01_1, gBi_01, gU_same, gU_off, gW_id, Int.toNat_natCast, Int.toNat_add, Int.toNat_mul, Int.reduceToNat, Nat.add_zero, Int.add_zero, bI_eq0, bI_B, Bool.not_true, Bool.not_false, bI_t, bI_f]
      · rw [if_neg h0]
        by_cases h : m < (u - w) + k
        · rw [if_pos h]; simp (disch := omega) only [gInb_t, gLt_t, gLt_f, gEq_t, gEq_f, gIx_nat, gIx_id, gIf, cond_true, cond_false, gCi_some, gCv_some, gCr_some, gB01_0, gB01_1, gBi_01, gU_same, gU_off, gW_id, Int.toNat_natCast, Int.toNat_add, Int.toNat_mul, Int.reduceToNat, Nat.add_zero, Int.add_zero, bI_eq0, bI_B, Bool.not_true, Bool.not_false, bI_t, bI_f]
        · rw [if_neg h]; simp (disch := omega) only [gInb_t, gLt_t, gLt_f, gEq_t, gEq_f, gIx_nat, gIx_id, gIf, cond_true, cond_false, gCi_some, gCv_some, gCr_some, gB01_0, gB01_1, gBi_01, gU_same, gU_off, gW_id, Int.toNat_natCast, Int.toNat_add, Int.toNat_mul, Int.reduceToNat, Nat.add_zero, Int.add_zero, bI_eq0, bI_B, Bool.not_true, Bool.not_false, bI_t, bI_f]
    rw [q_X10_misread_75, e96, e96, Nat.add_sub_cancel, Nat.add_sub_cancel]
    unfold tm
    by_cases h0 : k = 0
    · have : wq q k = 20 - 2 * q := by unfold wq; rw [if_pos h0]
      rw [this]; simp (disch := omega) only [gInb_t, gLt_t, gLt_f, gEq_t, gEq_f, gIx_nat, gIx_id, gIf, cond_true, cond_false, gCi_some, gCv_some, gCr_some, gB01_0, gB01_1, gBi_01, gU_same, gU_off, gW_id, Int.toNat_natCast, Int.toNat_add, Int.toNat_mul, Int.reduceToNat, Nat.add_zero, Int.add_zero, bI_eq0, bI_B, Bool.not_true, Bool.not_false, bI_t, bI_f]
    · have : wq q k = q := by unfold wq; rw [if_neg h0]
      rw [this]; simp (disch := omega) only [gInb_t, gLt_t, gLt_f, gEq_t, gEq_f, gIx_nat, gIx_id, gIf, cond_true, cond_false, gCi_some, gCv_some, gCr_some, gB01_0, gB01_1, gBi_01, gU_same, gU_off, gW_id, Int.toNat_natCast, Int.toNat_add, Int.toNat_mul, Int.reduceToNat, Nat.add_zero, Int.add_zero, bI_eq0, bI_B, Bool.not_true, Bool.not_false, bI_t, bI_f]
  have row : ∀ (y : Nat) (a k : Int), 10 ≤ y → -1 ≤ k → k ≤ 1 → L_X10_misread_66 C y x1 x2 q x4 u w a k M = L_X10_misread_66 C (y - 1 - 1 - 1 - 1 - 1 - 1 - 1 - 1) x1 x2 q x4 u w (abR q (u - w) k a) (k + 1) M := fun y a k hy k1 k2 => by
    obtain ⟨y, rfl⟩ : ∃ z, y = z + 1 := ⟨y - 1, by omega⟩
    have e1 := st y a k (-1) (by omega) k1 k2 (by omega) (by omega)
    have e2 := st (y - 1 - 1) (a + tm q (u - w) k (-1)) k 0 (by omega) k1 k2 (by omega) (by omega)
    have e3 := st (y - 1 - 1 - 1 - 1) (a + tm q (u - w) k (-1) + tm q (u - w) k 0) k 1 (by omega) k1 k2 (by omega) (by omega)
    have e4 : ∀ (y : Nat) (a k : Int), 1 ≤ y → L_X10_misread_75 C y x1 x2 q x4 u w a k 2 M = L_X10_misread_66 C (y - 1) x1 x2 q x4 u w a (k + 1) M := fun y a k hy => by
      obtain ⟨y, rfl⟩ : ∃ z, y = z + 1 := ⟨y - 1, by omega⟩
      rw [q_X10_misread_75, Nat.add_sub_cancel]
      simp (disch := omega) only [gInb_t, gLt_t, gLt_f, gEq_t, gEq_f, gIx_nat, gIx_id, gIf, cond_true, cond_false, gCi_some, gCv_some, gCr_some, gB01_0, gB01_1, gBi_01, gU_same, gU_off, gW_id, Int.toNat_natCast, Int.toNat_add, Int.toNat_mul, Int.reduceToNat, Nat.add_zero, Int.add_zero, bI_eq0, bI_B, Bool.not_true, Bool.not_false, bI_t, bI_f]
    rw [show (-1 : Int) + 1 = 0 from rfl] at e1
    rw [show (0 : Int) + 1 = 1 from rfl] at e2
    rw [show (1 : Int) + 1 = 2 from rfl] at e3
    rw [q_X10_misread_66, gLt_t (by omega) (by omega) (by omega), cond_true, e1, e2, e3, e4 _ _ _ (by omega), Nat.add_sub_cancel]
    rfl
  have r1 := row z 0 (-1) (by omega) (by omega) (by omega)
  have r2 := row (z - 1 - 1 - 1 - 1 - 1 - 1 - 1 - 1) (abR q (u - w) (-1) 0) 0 (by omega) (by omega) (by omega)
  have r3 := row (z - 1 - 1 - 1 - 1 - 1 - 1 - 1 - 1 - 1 - 1 - 1 - 1 - 1 - 1 - 1 - 1) (abR q (u - w) 0 (abR q (u - w) (-1) 0)) 1 (by omega) (by omega) (by omega)
  rw [show (-1 : Int) + 1 = 0 from rfl] at r1
  rw [show (0 : Int) + 1 = 1 from rfl] at r2
  rw [show (1 : Int) + 1 = 2 from rfl] at r3
  have r4 : ∀ (y : Nat) (a : Int), 1 ≤ y → L_X10_misread_66 C y x1 x2 q x4 u w a 2 M = L_X10_misread_159 C (y - 1) x1 x2 q x4 u w a a 400 M := fun y a hy => by
    obtain ⟨y, rfl⟩ : ∃ z, y = z + 1 := ⟨y - 1, by omega⟩
    rw [q_X10_misread_66, Nat.add_sub_cancel]
    simp (disch := omega) only [gInb_t, gLt_t, gLt_f, gEq_t, gEq_f, gIx_nat, gIx_id, gIf, cond_true, cond_false, gCi_some, gCv_some, gCr_some, gB01_0, gB01_1, gBi_01, gU_same, gU_off, gW_id, Int.toNat_natCast, Int.toNat_add, Int.toNat_mul, Int.reduceToNat, Nat.add_zero, Int.add_zero, bI_eq0, bI_B, Bool.not_true, Bool.not_false, bI_t, bI_f]
  refine ⟨_, ?_, by rw [r1, r2, r3, r4 _ _ (by omega)]; rfl⟩
  omega
theorem p_misread (N d : Nat) (a b q w : Int) (M : gM) (hN : 100000 ≤ N) (hI : kInv M) (ha : rng a) (hb : rng b) (hq : rng q) (hwr : rng w) : kPair N (d + 20) 76 155 [.inl a, .inl b, .inl q, .inl w] M := by
  obtain ⟨n, K, t, F, G, c, A, B, c', A', B', l, s, h⟩ := id hI
  obtain ⟨hP, hW, hT, hQ, hQ', hX, hU, hKp, hS, hD, hw, hz⟩ := id h
  have hn := hP.1
  have h6 := hP.2.1
  have m29 := hP.2.2.1
  have hKx := iPpl_kx hP
  have hKm := iPpl_km hP
  obtain ⟨hOk, hG8, hH0⟩ := id hW
  have c1 := q_X9_misread N (d + 19) a b q w M
  rw [s_xtwo _ _ n _ _ _ hn h6 ha hb, gCi_some, s_xin N _ q 0 10 M hq (rng_c (by omega) (by omega)) (rng_c (by omega) (by omega)), gCi_some, s_xin N _ w 0 1 M hwr (rng_c (by omega) (by omega)) (rng_c (by omega) (by omega)), gCi_some] at c1
  have c2 := q_X10_misread N (d + 19) a b q w M
  rw [s_mtwo _ _ n _ _ _ hn m29 ha hb, gCi_some, s_min N _ q 0 10 (((0 : Nat) : Int)) (((10 : Nat) : Int) - ((0 : Nat) : Int)) M hq (rng_c (by omega) (by omega)) (rng_c (by omega) (by omega)) rfl rfl, gCi_some, s_min N _ w 0 1 (((0 : Nat) : Int)) (((1 : Nat) : Int)) M hwr (rng_c (by omega) (by omega)) (rng_c (by omega) (by omega)) rfl rfl, gCi_some] at c2
  by_cases h0 : (0 ≤ a ∧ a < (n : Int)) ∧ (0 ≤ b ∧ b < (n : Int)) ∧ a ≠ b
  · rw [decide_eq_true h0] at c1 c2
    by_cases h1 : 0 ≤ q ∧ q ≤ 10
    · rw [decide_eq_true h1] at c1 c2
      by_cases h2 : 0 ≤ w ∧ w ≤ 1
      · rw [decide_eq_true h2] at c1 c2
        obtain ⟨p, rfl⟩ : ∃ p : Nat, a = (p : Int) := ⟨a.toNat, by omega⟩
        obtain ⟨o, rfl⟩ : ∃ o : Nat, b = (o : Int) := ⟨b.toNat, by omega⟩
        have hp : p < n := by omega
        have ho : o < n := by omega
        have b1 := ld_bd (c := 0) (hKx.2 p hp).1 (hOk.2.2 p hp)
        have b2 := ld_bd (c := 0) (hKx.2 o ho).1 (hOk.2.2 o ho)
        have t1 := stepK_bd b1.1
        have t2 := stepK_bd b2.1
        have hab := abv_bd (q := q) (x := stepK (ld K F 0 p) - stepK (ld K F 0 o)) h1
        obtain ⟨v, hv⟩ : ∃ v : Nat, abv q (stepK (ld K F 0 p) - stepK (ld K F 0 o)) = (v : Int) := ⟨(abv q (stepK (ld K F 0 p) - stepK (ld K F 0 o))).toNat, by omega⟩
        have hg : 1 ≤ Nat.gcd 400 v := Nat.gcd_pos_of_pos_left v (by omega)
        have hg4 : Nat.gcd 400 v ≤ 400 := Nat.gcd_le_left v (by omega)
        have lg : gEv N (d + 19) 98 [.inl 400, .inl ((v : Nat) : Int)] M = some (M, some (.inl ((Nat.gcd 400 v : Nat) : Int))) := (q_X9_commonDivisor N (d + 18) 400 (v : Int) M).trans (l_xgcd (gEv N (d + 18)) 400 (v : Int) M 400 400 v 0 N (by omega) (by omega) (by omega) (by omega) (by omega))
        rw [s_xload0 N _ p n K t F M (by omega) hn hp hKx hOk hG8, gCi_some, s_stepX N _ _ M b1.1 (by omega), gCi_some, s_xload0 N _ o n K t F M (by omega) hn ho hKx hOk hG8, gCi_some, s_stepX N _ _ M b2.1 (by omega), gCi_some, s_xabove N _ q _ M (by omega) (by omega), gCi_some, hv, lg, gCi_some] at c1
        obtain ⟨z', z1, z2⟩ := l_mabove (gEv N (d + 19)) (p : Int) (o : Int) q w (stepK (ld K F 0 p)) (stepK (ld K F 0 o)) M t1 t2 N (by omega)
        have lm := l_mgcd (gEv N (d + 19)) (p : Int) (o : Int) q w (stepK (ld K F 0 p)) (stepK (ld K F 0 o)) (v : Int) M hwr 400 v 400 z' (by omega) (by omega) (by omega) (by omega) (by omega)
        rw [hv] at z2
        rw [Nat.gcd_comm v 400] at lm
        rw [s_mload0 N _ p n K t F M (by omega) hn hp hKm hOk hH0, gCi_some, s_stepM N _ _ M b1.1 (by omega), gCi_some, s_mload0 N _ o n K t F M (by omega) hn ho hKm hOk hH0, gCi_some, s_stepM N _ _ M b2.1 (by omega), gCi_some, z2] at c2
        have lm' : L_X10_misread_159 (gEv N (d + 19)) z' (p : Int) (o : Int) q w (stepK (ld K F 0 p)) (stepK (ld K F 0 o)) (v : Int) (v : Int) 400 M = _ := lm
        rw [lm'] at c2
        by_cases h3 : w = 0
        · rw [if_pos h3] at c2
          refine kPair_ro (gDiv (v : Int) ((Nat.gcd 400 v : Nat) : Int)) hI (c1.trans ?_) (c2.trans ?_)
          · simp (disch := omega) only [gInb_t, gLt_t, gLt_f, gEq_t, gEq_f, gIx_nat, gIx_id, gIf, cond_true, cond_false, gCi_some, gCv_some, gCr_some, gB01_0, gB01_1, gBi_01, gU_same, gU_off, gW_id, Int.toNat_natCast, Int.toNat_add, Int.toNat_mul, Int.reduceToNat, Nat.add_zero, Int.add_zero, bI_eq0, bI_B, Bool.not_true, Bool.not_false, bI_t, bI_f]
          · simp (disch := omega) only [gInb_t, gLt_t, gLt_f, gEq_t, gEq_f, gIx_nat, gIx_id, gIf, cond_true, cond_false, gCi_some, gCv_some, gCr_some, gB01_0, gB01_1, gBi_01, gU_same, gU_off, gW_id, Int.toNat_natCast, Int.toNat_add, Int.toNat_mul, Int.reduceToNat, Nat.add_zero, Int.add_zero, bI_eq0, bI_B, Bool.not_true, Bool.not_false, bI_t, bI_f]
        · rw [if_neg h3] at c2
          refine kPair_ro (gDiv 400 ((Nat.gcd 400 v : Nat) : Int)) hI (c1.trans ?_) (c2.trans ?_)
          · simp (disch := omega) only [gInb_t, gLt_t, gLt_f, gEq_t, gEq_f, gIx_nat, gIx_id, gIf, cond_true, cond_false, gCi_some, gCv_some, gCr_some, gB01_0, gB01_1, gBi_01, gU_same, gU_off, gW_id, Int.toNat_natCast, Int.toNat_add, Int.toNat_mul, Int.reduceToNat, Nat.add_zero, Int.add_zero, bI_eq0, bI_B, Bool.not_true, Bool.not_false, bI_t, bI_f]
          · simp (disch := omega) only [gInb_t, gLt_t, gLt_f, gEq_t, gEq_f, gIx_nat, gIx_id, gIf, cond_true, cond_false, gCi_some, gCv_some, gCr_some, gB01_0, gB01_1, gBi_01, gU_same, gU_off, gW_id, Int.toNat_natCast, Int.toNat_add, Int.toNat_mul, Int.reduceToNat, Nat.add_zero, Int.add_zero, bI_eq0, bI_B, Bool.not_true, Bool.not_false, bI_t, bI_f]
      · rw [decide_eq_false h2] at c1 c2
        refine kPair_ro (-3) hI (c1.trans ?_) (c2.trans ?_)
        · simp (disch := omega) only [gInb_t, gLt_t, gLt_f, gEq_t, gEq_f, gIx_nat, gIx_id, gIf, cond_true, cond_false, gCi_some, gCv_some, gCr_some, gB01_0, gB01_1, gBi_01, gU_same, gU_off, gW_id, Int.toNat_natCast, Int.toNat_add, Int.toNat_mul, Int.reduceToNat, Nat.add_zero, Int.add_zero, bI_eq0, bI_B, Bool.not_true, Bool.not_false, bI_t, bI_f]
        · simp (disch := omega) only [gInb_t, gLt_t, gLt_f, gEq_t, gEq_f, gIx_nat, gIx_id, gIf, cond_true, cond_false, gCi_some, gCv_some, gCr_some, gB01_0, gB01_1, gBi_01, gU_same, gU_off, gW_id, Int.toNat_natCast, Int.toNat_add, Int.toNat_mul, Int.reduceToNat, Nat.add_zero, Int.add_zero, bI_eq0, bI_B, Bool.not_true, Bool.not_false, bI_t, bI_f]
    · rw [decide_eq_false h1] at c1 c2
      refine kPair_ro (-3) hI (c1.trans ?_) (c2.trans ?_)
      · simp (disch := omega) only [gInb_t, gLt_t, gLt_f, gEq_t, gEq_f, gIx_nat, gIx_id, gIf, cond_true, cond_false, gCi_some, gCv_some, gCr_some, gB01_0, gB01_1, gBi_01, gU_same, gU_off, gW_id, Int.toNat_natCast, Int.toNat_add, Int.toNat_mul, Int.reduceToNat, Nat.add_zero, Int.add_zero, bI_eq0, bI_B, Bool.not_true, Bool.not_false, bI_t, bI_f]
      · simp (disch := omega) only [gInb_t, gLt_t, gLt_f, gEq_t, gEq_f, gIx_nat, gIx_id, gIf, cond_true, cond_false, gCi_some, gCv_some, gCr_some, gB01_0, gB01_1, gBi_01, gU_same, gU_off, gW_id, Int.toNat_natCast, Int.toNat_add, Int.toNat_mul, Int.reduceToNat, Nat.add_zero, Int.add_zero, bI_eq0, bI_B, Bool.not_true, Bool.not_false, bI_t, bI_f]
  · rw [decide_eq_false h0] at c1 c2
    refine kPair_ro (-2) hI (c1.trans ?_) (c2.trans ?_)
    · simp (disch := omega) only [gInb_t, gLt_t, gLt_f, gEq_t, gEq_f, gIx_nat, gIx_id, gIf, cond_true, cond_false, gCi_some, gCv_some, gCr_some, gB01_0, gB01_1, gBi_01, gU_same, gU_off, gW_id, Int.toNat_natCast, Int.toNat_add, Int.toNat_mul, Int.reduceToNat, Nat.add_zero, Int.add_zero, bI_eq0, bI_B, Bool.not_true, Bool.not_false, bI_t, bI_f]
    · simp (disch := omega) only [gInb_t, gLt_t, gLt_f, gEq_t, gEq_f, gIx_nat, gIx_id, gIf, cond_true, cond_false, gCi_some, gCv_some, gCr_some, gB01_0, gB01_1, gBi_01, gU_same, gU_off, gW_id, Int.toNat_natCast, Int.toNat_add, Int.toNat_mul, Int.reduceToNat, Nat.add_zero, Int.add_zero, bI_eq0, bI_B, Bool.not_true, Bool.not_false, bI_t, bI_f]
