-- 57: count
theorem l_xgoin (C : gCl) (n : Nat) (f : Nat → Int) (M : gM) (hn : n ≤ 7) (h6 : M 6 0 = (n : Int)) (hf : ∀ j, j < n → 0 ≤ f j ∧ f j ≤ 400) (hC : ∀ j, j < n → C 27 [.inr (.inr 7), .inl (j : Int), .inl 0] M = some (M, some (.inl (f j)))) : ∀ (r j z a : Nat), j + r = n → r < z → L_X5_howManyGoIn_4 C z (a : Int) (j : Int) M = some (M, some (.inl ((a + cB (fun k => decide (0 < f k)) j r : Nat) : Int))) := by
  intro r
  induction r with
  | zero =>
    intro j z a hj hz
    obtain ⟨z, rfl⟩ : ∃ y, z = y + 1 := ⟨z - 1, by omega⟩
    rw [q_X5_howManyGoIn_4, h6]
    simp (disch := omega) only [gInb_t, gLt_t, gLt_f, gEq_t, gEq_f, gIx_nat, gIx_id, gIf, cond_true, cond_false, gCi_some, gCv_some, gCr_some, gB01_0, gB01_1, gBi_01, gU_same, gU_off, gW_id, Int.toNat_natCast, Int.toNat_add, Int.toNat_mul, Int.reduceToNat, Nat.add_zero, Int.add_zero, cB]
  | succ r ih =>
    intro j z a hj hz
    obtain ⟨z, rfl⟩ : ∃ y, z = y + 1 := ⟨z - 1, by omega⟩
    have := hf j (by omega)
    rw [q_X5_howManyGoIn_4, h6, hC j (by omega), cast_1 j, cast_1 a]
    simp only [ih (j + 1) z _ (by omega) (by omega), gCi_some, cB]
    by_cases h : 0 < f j
    · simp (disch := omega) only [gInb_t, gLt_t, gLt_f, gEq_t, gEq_f, gIx_nat, gIx_id, gIf, cond_true, cond_false, gCi_some, gCv_some, gCr_some, gB01_0, gB01_1, gBi_01, gU_same, gU_off, gW_id, Int.toNat_natCast, Int.toNat_add, Int.toNat_mul, Int.reduceToNat, Nat.add_zero, Int.add_zero]
      simp [h, Nat.add_assoc]
    · simp (disch := omega) only [gInb_t, gLt_t, gLt_f, gEq_t, gEq_f, gIx_nat, gIx_id, gIf, cond_true, cond_false, gCi_some, gCv_some, gCr_some, gB01_0, gB01_1, gBi_01, gU_same, gU_off, gW_id, Int.toNat_natCast, Int.toNat_add, Int.toNat_mul, Int.reduceToNat, Nat.add_zero, Int.add_zero]
      simp [h]
theorem l_mgoin (C : gCl) (n : Nat) (f : Nat → Int) (M : gM) (hn : n ≤ 7) (h6 : M 82 29 = (n : Int)) (hf : ∀ j, j < n → 0 ≤ f j ∧ f j ≤ 400) (hC : ∀ j, j < n → C 120 [.inr (.inr 82), .inl 0, .inl (j : Int)] M = some (M, some (.inl (f j)))) : ∀ (r j z a : Nat), j + r = n → r < z → L_X10_goIn_4 C z (a : Int) (j : Int) M = some (M, some (.inl ((a + cB (fun k => decide (0 < f k)) j r : Nat) : Int))) := by
  intro r
  have hx : gIx 29 = 29 := gIx_e (n := 29) rfl (by omega)
  induction r with
  | zero =>
    intro j z a hj hz
    obtain ⟨z, rfl⟩ : ∃ y, z = y + 1 := ⟨z - 1, by omega⟩
    rw [q_X10_goIn_4, hx, h6]
    simp (disch := omega) only [gInb_t, gLt_t, gLt_f, gEq_t, gEq_f, gIx_nat, gIx_id, gIf, cond_true, cond_false, gCi_some, gCv_some, gCr_some, gB01_0, gB01_1, gBi_01, gU_same, gU_off, gW_id, Int.toNat_natCast, Int.toNat_add, Int.toNat_mul, Int.reduceToNat, Nat.add_zero, Int.add_zero, cB]
  | succ r ih =>
    intro j z a hj hz
    obtain ⟨z, rfl⟩ : ∃ y, z = y + 1 := ⟨z - 1, by omega⟩
    have := hf j (by omega)
    rw [q_X10_goIn_4, hx, h6, hC j (by omega), cast_1 j, cast_1 a]
    simp only [ih (j + 1) z _ (by omega) (by omega), gCi_some, cB, Int.add_zero]
    by_cases h : 0 < f j
    · simp (disch := omega) only [gInb_t, gLt_t, gLt_f, gEq_t, gEq_f, gIx_nat, gIx_id, gIf, cond_true, cond_false, gCi_some, gCv_some, gCr_some, gB01_0, gB01_1, gBi_01, gU_same, gU_off, gW_id, Int.toNat_natCast, Int.toNat_add, Int.toNat_mul, Int.reduceToNat, Nat.add_zero, Int.add_zero]
      simp [h, Nat.add_assoc]
    · simp (disch := omega) only [gInb_t, gLt_t, gLt_f, gEq_t, gEq_f, gIx_nat, gIx_id, gIf, cond_true, cond_false, gCi_some, gCv_some, gCr_some, gB01_0, gB01_1, gBi_01, gU_same, gU_off, gW_id, Int.toNat_natCast, Int.toNat_add, Int.toNat_mul, Int.reduceToNat, Nat.add_zero, Int.add_zero]
      simp [h]
theorem l_xall (C : gCl) (n : Nat) (f : Nat → Int) (M : gM) (hn : n ≤ 7) (h6 : M 6 0 = (n : Int)) (hC : ∀ j, j < n → C 27 [.inr (.inr 7), .inl (j : Int), .inl 0] M = some (M, some (.inl (f j)))) : ∀ (r j z : Nat) (a : Int), j + r = n → r < z → L_X5_allLoads_4 C z a (j : Int) M = some (M, some (.inl (a + cS f j r))) := by
  intro r
  induction r with
  | zero =>
    intro j z a hj hz
    obtain ⟨z, rfl⟩ : ∃ y, z = y + 1 := ⟨z - 1, by omega⟩
    rw [q_X5_allLoads_4, h6]
    simp (disch := omega) only [gInb_t, gLt_t, gLt_f, gEq_t, gEq_f, gIx_nat, gIx_id, gIf, cond_true, cond_false, gCi_some, gCv_some, gCr_some, gB01_0, gB01_1, gBi_01, gU_same, gU_off, gW_id, Int.toNat_natCast, Int.toNat_add, Int.toNat_mul, Int.reduceToNat, Nat.add_zero, Int.add_zero, cS]
  | succ r ih =>
    intro j z a hj hz
    obtain ⟨z, rfl⟩ : ∃ y, z = y + 1 := ⟨z - 1, by omega⟩
    rw [q_X5_allLoads_4, h6, hC j (by omega), cast_1 j]
    simp only [ih (j + 1) z _ (by omega) (by omega), gCi_some, cS]
    simp (disch := omega) only [gInb_t, gLt_t, gLt_f, gEq_t, gEq_f, gIx_nat, gIx_id, gIf, cond_true, cond_false, gCi_some, gCv_some, gCr_some, gB01_0, gB01_1, gBi_01, gU_same, gU_off, gW_id, Int.toNat_natCast, Int.toNat_add, Int.toNat_mul, Int.reduceToNat, Nat.add_zero, Int.add_zero, Int.add_assoc]
theorem l_mall (C : gCl) (n : Nat) (f : Nat → Int) (M : gM) (hn : n ≤ 7) (h6 : M 82 29 = (n : Int)) (hC : ∀ j, j < n → C 120 [.inr (.inr 82), .inl 0, .inl (j : Int)] M = some (M, some (.inl (f j)))) : ∀ (r j z : Nat) (a : Int), j + r = n → r < z → L_X10_allLoads_4 C z a (j : Int) M = some (M, some (.inl (a + cS f j r))) := by
  intro r
  have hx : gIx 29 = 29 := gIx_e (n := 29) rfl (by omega)
  induction r with
  | zero =>
    intro j z a hj hz
    obtain ⟨z, rfl⟩ : ∃ y, z = y + 1 := ⟨z - 1, by omega⟩
    rw [q_X10_allLoads_4, hx, h6]
    simp (disch := omega) only [gInb_t, gLt_t, gLt_f, gEq_t, gEq_f, gIx_nat, gIx_id, gIf, cond_true, cond_false, gCi_some, gCv_some, gCr_some, gB01_0, gB01_1, gBi_01, gU_same, gU_off, gW_id, Int.toNat_natCast, Int.toNat_add, Int.toNat_mul, Int.reduceToNat, Nat.add_zero, Int.add_zero, cS]
  | succ r ih =>
    intro j z a hj hz
    obtain ⟨z, rfl⟩ : ∃ y, z = y + 1 := ⟨z - 1, by omega⟩
    rw [q_X10_allLoads_4, hx, h6, hC j (by omega), cast_1 j]
    simp only [ih (j + 1) z _ (by omega) (by omega), gCi_some, cS]
    simp (disch := omega) only [gInb_t, gLt_t, gLt_f, gEq_t, gEq_f, gIx_nat, gIx_id, gIf, cond_true, cond_false, gCi_some, gCv_some, gCr_some, gB01_0, gB01_1, gBi_01, gU_same, gU_off, gW_id, Int.toNat_natCast, Int.toNat_add, Int.toNat_mul, Int.reduceToNat, Nat.add_zero, Int.add_zero, Int.add_assoc]
theorem l_xgriefs (C : gCl) (n : Nat) (f : Nat → Int) (M : gM) (hn : n ≤ 7) (h6 : M 6 0 = (n : Int)) (hC : ∀ j, j < n → M 9 j = f j) : ∀ (r j z : Nat) (a : Int), j + r = n → r < z → L_X5_allGriefs_4 C z a (j : Int) M = some (M, some (.inl (a + cS f j r))) := by
  intro r
  induction r with
  | zero =>
    intro j z a hj hz
    obtain ⟨z, rfl⟩ : ∃ y, z = y + 1 := ⟨z - 1, by omega⟩
    rw [q_X5_allGriefs_4, h6]
    simp (disch := omega) only [gInb_t, gLt_t, gLt_f, gEq_t, gEq_f, gIx_nat, gIx_id, gIf, cond_true, cond_false, gCi_some, gCv_some, gCr_some, gB01_0, gB01_1, gBi_01, gU_same, gU_off, gW_id, Int.toNat_natCast, Int.toNat_add, Int.toNat_mul, Int.reduceToNat, Nat.add_zero, Int.add_zero, cS]
  | succ r ih =>
    intro j z a hj hz
    obtain ⟨z, rfl⟩ : ∃ y, z = y + 1 := ⟨z - 1, by omega⟩
    rw [q_X5_allGriefs_4, h6, gIx_e (x := (j : Int)) (n := j) rfl (by omega), hC j (by omega), cast_1 j]
    simp only [ih (j + 1) z _ (by omega) (by omega), cS]
    simp (disch := omega) only [gInb_t, gLt_t, gLt_f, gEq_t, gEq_f, gIx_nat, gIx_id, gIf, cond_true, cond_false, gCi_some, gCv_some, gCr_some, gB01_0, gB01_1, gBi_01, gU_same, gU_off, gW_id, Int.toNat_natCast, Int.toNat_add, Int.toNat_mul, Int.reduceToNat, Nat.add_zero, Int.add_zero, Int.add_assoc]
theorem l_mgriefs (C : gCl) (n : Nat) (f : Nat → Int) (M : gM) (hn : n ≤ 7) (h6 : M 82 29 = (n : Int)) (hC : ∀ j, j < n → M 82 (21 + j) = f j) : ∀ (r j z : Nat) (a : Int), j + r = n → r < z → L_X10_allGriefs_4 C z a (j : Int) M = some (M, some (.inl (a + cS f j r))) := by
  intro r
  have hx : gIx 29 = 29 := gIx_e (n := 29) rfl (by omega)
  induction r with
  | zero =>
    intro j z a hj hz
    obtain ⟨z, rfl⟩ : ∃ y, z = y + 1 := ⟨z - 1, by omega⟩
    rw [q_X10_allGriefs_4, hx, h6]
    simp (disch := omega) only [gInb_t, gLt_t, gLt_f, gEq_t, gEq_f, gIx_nat, gIx_id, gIf, cond_true, cond_false, gCi_some, gCv_some, gCr_some, gB01_0, gB01_1, gBi_01, gU_same, gU_off, gW_id, Int.toNat_natCast, Int.toNat_add, Int.toNat_mul, Int.reduceToNat, Nat.add_zero, Int.add_zero, cS]
  | succ r ih =>
    intro j z a hj hz
    obtain ⟨z, rfl⟩ : ∃ y, z = y + 1 := ⟨z - 1, by omega⟩
    rw [q_X10_allGriefs_4, hx, h6, gIx_e (x := 21 + (j : Int)) (n := 21 + j) (by omega) (by omega), hC j (by omega), cast_1 j]
    simp only [ih (j + 1) z _ (by omega) (by omega), cS]
    simp (disch := omega) only [gInb_t, gLt_t, gLt_f, gEq_t, gEq_f, gIx_nat, gIx_id, gIf, cond_true, cond_false, gCi_some, gCv_some, gCr_some, gB01_0, gB01_1, gBi_01, gU_same, gU_off, gW_id, Int.toNat_natCast, Int.toNat_add, Int.toNat_mul, Int.reduceToNat, Nat.add_zero, Int.add_zero, Int.add_assoc]
theorem s_xthere (N d n : Nat) (M : gM) (hN : 10 ≤ N) (hD : iDrs M n) : gEv N (d + 1) 90 [.inr (.inr 1)] M = some (M, some (.inl (M 69 0 + M 72 0 + M 75 0 + M 78 0))) := by
  have e0 : M 69 0 = 0 ∨ M 69 0 = 1 := by have := (hD 0 (by omega)).1; simp only [Nat.mul_zero, Nat.add_zero] at this; omega
  have e1 : M 72 0 = 0 ∨ M 72 0 = 1 := by have := (hD 1 (by omega)).1; simp only [Nat.mul_one, Nat.reduceAdd] at this; omega
  have e2 : M 75 0 = 0 ∨ M 75 0 = 1 := by have := (hD 2 (by omega)).1; simp only [Nat.reduceMul, Nat.reduceAdd] at this; omega
  have e3 : M 78 0 = 0 ∨ M 78 0 = 1 := by have := (hD 3 (by omega)).1; simp only [Nat.reduceMul, Nat.reduceAdd] at this; omega
  rw [q_X9_drawersThere]
  generalize gEv N d = C
  have s0 : ∀ (y : Nat) (x : Int), 1 ≤ y → L_X9_drawersThere_4 C y x 0 M = L_X9_drawersThere_4 C (y - 1) (x + M 69 0) 1 M := fun y x hy => by
    obtain ⟨y, rfl⟩ : ∃ z, y = z + 1 := ⟨y - 1, by omega⟩
    rw [q_X9_drawersThere_4, Nat.add_sub_cancel]
    rcases e0 with e0 | e0 <;> simp (disch := omega) only [gInb_t, gLt_t, gLt_f, gEq_t, gEq_f, gIx_nat, gIx_id, gIf, cond_true, cond_false, gCi_some, gCv_some, gCr_some, gB01_0, gB01_1, gBi_01, gU_same, gU_off, gW_id, Int.toNat_natCast, Int.toNat_add, Int.toNat_mul, Int.reduceToNat, Nat.add_zero, Int.add_zero, e0, Int.zero_add, Int.reduceAdd]
  have s1 : ∀ (y : Nat) (x : Int), 1 ≤ y → L_X9_drawersThere_4 C y x 1 M = L_X9_drawersThere_4 C (y - 1) (x + M 72 0) 2 M := fun y x hy => by
    obtain ⟨y, rfl⟩ : ∃ z, y = z + 1 := ⟨y - 1, by omega⟩
    rw [q_X9_drawersThere_4, Nat.add_sub_cancel]
    rcases e1 with e1 | e1 <;> simp (disch := omega) only [gInb_t, gLt_t, gLt_f, gEq_t, gEq_f, gIx_nat, gIx_id, gIf, cond_true, cond_false, gCi_some, gCv_some, gCr_some, gB01_0, gB01_1, gBi_01, gU_same, gU_off, gW_id, Int.toNat_natCast, Int.toNat_add, Int.toNat_mul, Int.reduceToNat, Nat.add_zero, Int.add_zero, e1, Int.zero_add, Int.reduceAdd]
  have s2 : ∀ (y : Nat) (x : Int), 1 ≤ y → L_X9_drawersThere_4 C y x 2 M = L_X9_drawersThere_4 C (y - 1) (x + M 75 0) 3 M := fun y x hy => by
    obtain ⟨y, rfl⟩ : ∃ z, y = z + 1 := ⟨y - 1, by omega⟩
    rw [q_X9_drawersThere_4, Nat.add_sub_cancel]
    rcases e2 with e2 | e2 <;> simp (disch := omega) only [gInb_t, gLt_t, gLt_f, gEq_t, gEq_f, gIx_nat, gIx_id, gIf, cond_true, cond_false, gCi_some, gCv_some, gCr_some, gB01_0, gB01_1, gBi_01, gU_same, gU_off, gW_id, Int.toNat_natCast, Int.toNat_add, Int.toNat_mul, Int.reduceToNat, Nat.add_zero, Int.add_zero, e2, Int.zero_add, Int.reduceAdd]
  have s3 : ∀ (y : Nat) (x : Int), 1 ≤ y → L_X9_drawersThere_4 C y x 3 M = L_X9_drawersThere_4 C (y - 1) (x + M 78 0) 4 M := fun y x hy => by
    obtain ⟨y, rfl⟩ : ∃ z, y = z + 1 := ⟨y - 1, by omega⟩
    rw [q_X9_drawersThere_4, Nat.add_sub_cancel]
    rcases e3 with e3 | e3 <;> simp (disch := omega) only [gInb_t, gLt_t, gLt_f, gEq_t, gEq_f, gIx_nat, gIx_id, gIf, cond_true, cond_false, gCi_some, gCv_some, gCr_some, gB01_0, gB01_1, gBi_01, gU_same, gU_off, gW_id, Int.toNat_natCast, Int.toNat_add, Int.toNat_mul, Int.reduceToNat, Nat.add_zero, Int.add_zero, e3, Int.zero_add, Int.reduceAdd]
  have s4 : ∀ (y : Nat) (x : Int), 1 ≤ y → L_X9_drawersThere_4 C y x 4 M = some (M, some (.inl x)) := fun y x hy => by
    obtain ⟨y, rfl⟩ : ∃ z, y = z + 1 := ⟨y - 1, by omega⟩
    rw [q_X9_drawersThere_4]
    simp (disch := omega) only [gInb_t, gLt_t, gLt_f, gEq_t, gEq_f, gIx_nat, gIx_id, gIf, cond_true, cond_false, gCi_some, gCv_some, gCr_some, gB01_0, gB01_1, gBi_01, gU_same, gU_off, gW_id, Int.toNat_natCast, Int.toNat_add, Int.toNat_mul, Int.reduceToNat, Nat.add_zero, Int.add_zero]
  rw [s0 _ _ (by omega), s1 _ _ (by omega), s2 _ _ (by omega), s3 _ _ (by omega), s4 _ _ (by omega), Int.zero_add]
theorem s_mthere (N d n : Nat) (M : gM) (hN : 10 ≤ N) (hD : iDrs M n) : gEv N (d + 1) 173 [.inr (.inr 82)] M = some (M, some (.inl (M 69 0 + M 72 0 + M 75 0 + M 78 0))) := by
  have e0 : (M 69 0 = 0 ∧ M 88 0 = -1) ∨ (M 69 0 = 1 ∧ 0 ≤ M 88 0 ∧ M 88 0 ≤ 10) := by have := (hD 0 (by omega)).1; simp only [Nat.mul_zero, Nat.add_zero] at this; omega
  have e1 : (M 72 0 = 0 ∧ M 88 1 = -1) ∨ (M 72 0 = 1 ∧ 0 ≤ M 88 1 ∧ M 88 1 ≤ 10) := by have := (hD 1 (by omega)).1; simp only [Nat.mul_one, Nat.reduceAdd] at this; omega
  have e2 : (M 75 0 = 0 ∧ M 88 2 = -1) ∨ (M 75 0 = 1 ∧ 0 ≤ M 88 2 ∧ M 88 2 ≤ 10) := by have := (hD 2 (by omega)).1; simp only [Nat.reduceMul, Nat.reduceAdd] at this; omega
  have e3 : (M 78 0 = 0 ∧ M 88 3 = -1) ∨ (M 78 0 = 1 ∧ 0 ≤ M 88 3 ∧ M 88 3 ≤ 10) := by have := (hD 3 (by omega)).1; simp only [Nat.reduceMul, Nat.reduceAdd] at this; omega
  have i0 : gIx 0 = 0 := gIx_e (n := 0) rfl (by omega)
  rw [q_X10_drawersThere]
  generalize gEv N d = C
  have s0 : ∀ (y : Nat) (x : Int), 1 ≤ y → L_X10_drawersThere_4 C y x 0 M = L_X10_drawersThere_4 C (y - 1) (x + M 69 0) 1 M := fun y x hy => by
    obtain ⟨y, rfl⟩ : ∃ z, y = z + 1 := ⟨y - 1, by omega⟩
    rw [q_X10_drawersThere_4, i0, Nat.add_sub_cancel]
    rcases e0 with e0 | e0 <;> simp (disch := omega) only [gInb_t, gLt_t, gLt_f, gEq_t, gEq_f, gIx_nat, gIx_id, gIf, cond_true, cond_false, gCi_some, gCv_some, gCr_some, gB01_0, gB01_1, gBi_01, gU_same, gU_off, gW_id, Int.toNat_natCast, Int.toNat_add, Int.toNat_mul, Int.reduceToNat, Nat.add_zero, Int.add_zero, e0.1, Int.zero_add, Int.reduceAdd]
  have s1 : ∀ (y : Nat) (x : Int), 1 ≤ y → L_X10_drawersThere_4 C y x 1 M = L_X10_drawersThere_4 C (y - 1) (x + M 72 0) 2 M := fun y x hy => by
    obtain ⟨y, rfl⟩ : ∃ z, y = z + 1 := ⟨y - 1, by omega⟩
    rw [q_X10_drawersThere_4, ovTab1, Nat.add_sub_cancel]
    rcases e1 with e1 | e1 <;> simp (disch := omega) only [gInb_t, gLt_t, gLt_f, gEq_t, gEq_f, gIx_nat, gIx_id, gIf, cond_true, cond_false, gCi_some, gCv_some, gCr_some, gB01_0, gB01_1, gBi_01, gU_same, gU_off, gW_id, Int.toNat_natCast, Int.toNat_add, Int.toNat_mul, Int.reduceToNat, Nat.add_zero, Int.add_zero, e1.1, Int.zero_add, Int.reduceAdd]
  have s2 : ∀ (y : Nat) (x : Int), 1 ≤ y → L_X10_drawersThere_4 C y x 2 M = L_X10_drawersThere_4 C (y - 1) (x + M 75 0) 3 M := fun y x hy => by
    obtain ⟨y, rfl⟩ : ∃ z, y = z + 1 := ⟨y - 1, by omega⟩
    rw [q_X10_drawersThere_4, ovTab2, Nat.add_sub_cancel]
    rcases e2 with e2 | e2 <;> simp (disch := omega) only [gInb_t, gLt_t, gLt_f, gEq_t, gEq_f, gIx_nat, gIx_id, gIf, cond_true, cond_false, gCi_some, gCv_some, gCr_some, gB01_0, gB01_1, gBi_01, gU_same, gU_off, gW_id, Int.toNat_natCast, Int.toNat_add, Int.toNat_mul, Int.reduceToNat, Nat.add_zero, Int.add_zero, e2.1, Int.zero_add, Int.reduceAdd]
  have s3 : ∀ (y : Nat) (x : Int), 1 ≤ y → L_X10_drawersThere_4 C y x 3 M = L_X10_drawersThere_4 C (y - 1) (x + M 78 0) 4 M := fun y x hy => by
    obtain ⟨y, rfl⟩ : ∃ z, y = z + 1 := ⟨y - 1, by omega⟩
    rw [q_X10_drawersThere_4, ovTab3, Nat.add_sub_cancel]
    rcases e3 with e3 | e3 <;> simp (disch := omega) only [gInb_t, gLt_t, gLt_f, gEq_t, gEq_f, gIx_nat, gIx_id, gIf, cond_true, cond_false, gCi_some, gCv_some, gCr_some, gB01_0, gB01_1, gBi_01, gU_same, gU_off, gW_id, Int.toNat_natCast, Int.toNat_add, Int.toNat_mul, Int.reduceToNat, Nat.add_zero, Int.add_zero, e3.1, Int.zero_add, Int.reduceAdd]
  have s4 : ∀ (y : Nat) (x : Int), 1 ≤ y → L_X10_drawersThere_4 C y x 4 M = some (M, some (.inl x)) := fun y x hy => by
    obtain ⟨y, rfl⟩ : ∃ z, y = z + 1 := ⟨y - 1, by omega⟩
    rw [q_X10_drawersThere_4]
    simp (disch := omega) only [gInb_t, gLt_t, gLt_f, gEq_t, gEq_f, gIx_nat, gIx_id, gIf, cond_true, cond_false, gCi_some, gCv_some, gCr_some, gB01_0, gB01_1, gBi_01, gU_same, gU_off, gW_id, Int.toNat_natCast, Int.toNat_add, Int.toNat_mul, Int.reduceToNat, Nat.add_zero, Int.add_zero]
  rw [s0 _ _ (by omega), s1 _ _ (by omega), s2 _ _ (by omega), s3 _ _ (by omega), s4 _ _ (by omega), Int.zero_add]
theorem p_count (N d : Nat) (a : Int) (M : gM) (hN : 100000 ≤ N) (hI : kInv M) (ha : rng a) : kPair N (d + 20) 86 174 [.inl a] M := by
  obtain ⟨n, K, t, F, G, c, A, B, c', A', B', l, s, h⟩ := id hI
  obtain ⟨hP, hW, hT, hQ, hQ', hX, hU, hKp, hS, hD, hw, hz⟩ := id h
  have hn := hP.1
  have h6 := hP.2.1
  have m29 := hP.2.2.1
  have hKx := iPpl_kx hP
  have hKm := iPpl_km hP
  obtain ⟨hOk, hG8, hH0⟩ := id hW
  obtain ⟨a1, a2⟩ := id ha
  have c1 : gEv N (d + 20) 86 [.inr (.inr 1), .inl a] M = _ := q_X9_count N (d + 19) _ M
  have c2 : gEv N (d + 20) 174 [.inr (.inr 82), .inl a] M = _ := q_X10_count N (d + 19) _ M
  rw [gIx_e (x := 29) (n := 29) rfl (by omega), gIx_e (x := 37) (n := 37) rfl (by omega), gIx_e (x := 28) (n := 28) rfl (by omega)] at c2
  have hb : ∀ j, j < n → 0 ≤ ld K F 0 j ∧ ld K F 0 j ≤ 400 := fun j hj => ld_bd (hKx.2 j hj).1 (hOk.2.2 j hj)
  by_cases h0 : a = 0
  · subst h0
    refine kPair_ro (n : Int) hI (c1.trans ?_) (c2.trans ?_)
    · simp (disch := omega) only [gInb_t, gLt_t, gLt_f, gEq_t, gEq_f, gIx_nat, gIx_id, gIf, cond_true, cond_false, gCi_some, gCv_some, gCr_some, gB01_0, gB01_1, gBi_01, gU_same, gU_off, gW_id, Int.toNat_natCast, Int.toNat_add, Int.toNat_mul, Int.reduceToNat, Nat.add_zero, Int.add_zero, bI_eq0, bI_B, Bool.not_true, Bool.not_false, bI_t, bI_f, h6]
    · simp (disch := omega) only [gInb_t, gLt_t, gLt_f, gEq_t, gEq_f, gIx_nat, gIx_id, gIf, cond_true, cond_false, gCi_some, gCv_some, gCr_some, gB01_0, gB01_1, gBi_01, gU_same, gU_off, gW_id, Int.toNat_natCast, Int.toNat_add, Int.toNat_mul, Int.reduceToNat, Nat.add_zero, Int.add_zero, bI_eq0, bI_B, Bool.not_true, Bool.not_false, bI_t, bI_f, m29]
  by_cases h1 : a = 1
  · subst h1
    refine kPair_ro (c : Int) hI (c1.trans ?_) (c2.trans ?_)
    · simp (disch := omega) only [gInb_t, gLt_t, gLt_f, gEq_t, gEq_f, gIx_nat, gIx_id, gIf, cond_true, cond_false, gCi_some, gCv_some, gCr_some, gB01_0, gB01_1, gBi_01, gU_same, gU_off, gW_id, Int.toNat_natCast, Int.toNat_add, Int.toNat_mul, Int.reduceToNat, Nat.add_zero, Int.add_zero, bI_eq0, bI_B, Bool.not_true, Bool.not_false, bI_t, bI_f, hQ.2.1]
    · simp (disch := omega) only [gInb_t, gLt_t, gLt_f, gEq_t, gEq_f, gIx_nat, gIx_id, gIf, cond_true, cond_false, gCi_some, gCv_some, gCr_some, gB01_0, gB01_1, gBi_01, gU_same, gU_off, gW_id, Int.toNat_natCast, Int.toNat_add, Int.toNat_mul, Int.reduceToNat, Nat.add_zero, Int.add_zero, bI_eq0, bI_B, Bool.not_true, Bool.not_false, bI_t, bI_f, show M 82 37 = (c : Int) from hQ.2.2.1]
  by_cases h2 : a = 2
  · subst h2
    refine kPair_ro t hI (c1.trans ?_) (c2.trans ?_)
    · simp (disch := omega) only [gInb_t, gLt_t, gLt_f, gEq_t, gEq_f, gIx_nat, gIx_id, gIf, cond_true, cond_false, gCi_some, gCv_some, gCr_some, gB01_0, gB01_1, gBi_01, gU_same, gU_off, gW_id, Int.toNat_natCast, Int.toNat_add, Int.toNat_mul, Int.reduceToNat, Nat.add_zero, Int.add_zero, bI_eq0, bI_B, Bool.not_true, Bool.not_false, bI_t, bI_f, hG8.1]
    · simp (disch := omega) only [gInb_t, gLt_t, gLt_f, gEq_t, gEq_f, gIx_nat, gIx_id, gIf, cond_true, cond_false, gCi_some, gCv_some, gCr_some, gB01_0, gB01_1, gBi_01, gU_same, gU_off, gW_id, Int.toNat_natCast, Int.toNat_add, Int.toNat_mul, Int.reduceToNat, Nat.add_zero, Int.add_zero, bI_eq0, bI_B, Bool.not_true, Bool.not_false, bI_t, bI_f, show M 82 28 = t from hH0.1]
  by_cases h3 : a = 3
  · subst h3
    have l1 := l_xgoin (gEv N (d + 18)) n (fun j => ld K F 0 j) M hn h6 hb (fun j hj => s_xload0 N (d + 15) j n K t F M (by omega) hn hj hKx hOk hG8) n 0 N 0 (by omega) (by omega)
    have l2 := l_mgoin (gEv N (d + 18)) n (fun j => ld K F 0 j) M hn m29 hb (fun j hj => s_mload0 N (d + 15) j n K t F M (by omega) hn hj hKm hOk hH0) n 0 N 0 (by omega) (by omega)
    have l3 : gEv N (d + 19) 30 [.inr (.inr 7)] M = _ := (q_X5_howManyGoIn N (d + 18) M).trans l1
    have l4 : gEv N (d + 19) 170 [.inr (.inr 82)] M = _ := (q_X10_goIn N (d + 18) M).trans l2
    refine kPair_ro ((0 + cB (fun k => decide (0 < ld K F 0 k)) 0 n : Nat) : Int) hI (c1.trans ?_) (c2.trans ?_)
    · rw [l3]; simp (disch := omega) only [gInb_t, gLt_t, gLt_f, gEq_t, gEq_f, gIx_nat, gIx_id, gIf, cond_true, cond_false, gCi_some, gCv_some, gCr_some, gB01_0, gB01_1, gBi_01, gU_same, gU_off, gW_id, Int.toNat_natCast, Int.toNat_add, Int.toNat_mul, Int.reduceToNat, Nat.add_zero, Int.add_zero, bI_eq0, bI_B, Bool.not_true, Bool.not_false, bI_t, bI_f]
    · rw [l4]; simp (disch := omega) only [gInb_t, gLt_t, gLt_f, gEq_t, gEq_f, gIx_nat, gIx_id, gIf, cond_true, cond_false, gCi_some, gCv_some, gCr_some, gB01_0, gB01_1, gBi_01, gU_same, gU_off, gW_id, Int.toNat_natCast, Int.toNat_add, Int.toNat_mul, Int.reduceToNat, Nat.add_zero, Int.add_zero, bI_eq0, bI_B, Bool.not_true, Bool.not_false, bI_t, bI_f]
  by_cases h4 : a = 4
  · subst h4
    have l1 := l_xall (gEv N (d + 18)) n (fun j => ld K F 0 j) M hn h6 (fun j hj => s_xload0 N (d + 15) j n K t F M (by omega) hn hj hKx hOk hG8) n 0 N 0 (by omega) (by omega)
    have l2 := l_mall (gEv N (d + 18)) n (fun j => ld K F 0 j) M hn m29 (fun j hj => s_mload0 N (d + 15) j n K t F M (by omega) hn hj hKm hOk hH0) n 0 N 0 (by omega) (by omega)
    have l3 : gEv N (d + 19) 31 [.inr (.inr 7)] M = _ := (q_X5_allLoads N (d + 18) M).trans l1
    have l4 : gEv N (d + 19) 171 [.inr (.inr 82)] M = _ := (q_X10_allLoads N (d + 18) M).trans l2
    refine kPair_ro (0 + cS (fun j => ld K F 0 j) 0 n) hI (c1.trans ?_) (c2.trans ?_)
    · rw [l3]; simp (disch := omega) only [gInb_t, gLt_t, gLt_f, gEq_t, gEq_f, gIx_nat, gIx_id, gIf, cond_true, cond_false, gCi_some, gCv_some, gCr_some, gB01_0, gB01_1, gBi_01, gU_same, gU_off, gW_id, Int.toNat_natCast, Int.toNat_add, Int.toNat_mul, Int.reduceToNat, Nat.add_zero, Int.add_zero, bI_eq0, bI_B, Bool.not_true, Bool.not_false, bI_t, bI_f]
    · rw [l4]; simp (disch := omega) only [gInb_t, gLt_t, gLt_f, gEq_t, gEq_f, gIx_nat, gIx_id, gIf, cond_true, cond_false, gCi_some, gCv_some, gCr_some, gB01_0, gB01_1, gBi_01, gU_same, gU_off, gW_id, Int.toNat_natCast, Int.toNat_add, Int.toNat_mul, Int.reduceToNat, Nat.add_zero, Int.add_zero, bI_eq0, bI_B, Bool.not_true, Bool.not_false, bI_t, bI_f]
  by_cases h5 : a = 5
  · subst h5
    have l1 := l_xgriefs (gEv N (d + 18)) n (fun j => ((F j).length : Int)) M hn h6 (fun j hj => (hG8.2 j hj).1) n 0 N 0 (by omega) (by omega)
    have l2 := l_mgriefs (gEv N (d + 18)) n (fun j => ((F j).length : Int)) M hn m29 (fun j hj => by have := (hH0.2 j hj).1; rw [Nat.zero_add] at this; exact this) n 0 N 0 (by omega) (by omega)
    have l3 : gEv N (d + 19) 32 [.inr (.inr 7)] M = _ := (q_X5_allGriefs N (d + 18) M).trans l1
    have l4 : gEv N (d + 19) 172 [.inr (.inr 82)] M = _ := (q_X10_allGriefs N (d + 18) M).trans l2
    refine kPair_ro (0 + cS (fun j => ((F j).length : Int)) 0 n) hI (c1.trans ?_) (c2.trans ?_)
    · rw [l3]; simp (disch := omega) only [gInb_t, gLt_t, gLt_f, gEq_t, gEq_f, gIx_nat, gIx_id, gIf, cond_true, cond_false, gCi_some, gCv_some, gCr_some, gB01_0, gB01_1, gBi_01, gU_same, gU_off, gW_id, Int.toNat_natCast, Int.toNat_add, Int.toNat_mul, Int.reduceToNat, Nat.add_zero, Int.add_zero, bI_eq0, bI_B, Bool.not_true, Bool.not_false, bI_t, bI_f]
    · rw [l4]; simp (disch := omega) only [gInb_t, gLt_t, gLt_f, gEq_t, gEq_f, gIx_nat, gIx_id, gIf, cond_true, cond_false, gCi_some, gCv_some, gCr_some, gB01_0, gB01_1, gBi_01, gU_same, gU_off, gW_id, Int.toNat_natCast, Int.toNat_add, Int.toNat_mul, Int.reduceToNat, Nat.add_zero, Int.add_zero, bI_eq0, bI_B, Bool.not_true, Bool.not_false, bI_t, bI_f]
  by_cases h7 : a = 6
  · subst h7
    refine kPair_ro (s : Int) hI (c1.trans ?_) (c2.trans ?_)
    · simp (disch := omega) only [gInb_t, gLt_t, gLt_f, gEq_t, gEq_f, gIx_nat, gIx_id, gIf, cond_true, cond_false, gCi_some, gCv_some, gCr_some, gB01_0, gB01_1, gBi_01, gU_same, gU_off, gW_id, Int.toNat_natCast, Int.toNat_add, Int.toNat_mul, Int.reduceToNat, Nat.add_zero, Int.add_zero, bI_eq0, bI_B, Bool.not_true, Bool.not_false, bI_t, bI_f, hS.2.1]
    · simp (disch := omega) only [gInb_t, gLt_t, gLt_f, gEq_t, gEq_f, gIx_nat, gIx_id, gIf, cond_true, cond_false, gCi_some, gCv_some, gCr_some, gB01_0, gB01_1, gBi_01, gU_same, gU_off, gW_id, Int.toNat_natCast, Int.toNat_add, Int.toNat_mul, Int.reduceToNat, Nat.add_zero, Int.add_zero, bI_eq0, bI_B, Bool.not_true, Bool.not_false, bI_t, bI_f, hS.2.2.1]
  by_cases h8 : a = 7
  · subst h8
    refine kPair_ro (M 69 0 + M 72 0 + M 75 0 + M 78 0) hI (c1.trans ?_) (c2.trans ?_)
    · rw [s_xthere N _ n M (by omega) hD]; simp (disch := omega) only [gInb_t, gLt_t, gLt_f, gEq_t, gEq_f, gIx_nat, gIx_id, gIf, cond_true, cond_false, gCi_some, gCv_some, gCr_some, gB01_0, gB01_1, gBi_01, gU_same, gU_off, gW_id, Int.toNat_natCast, Int.toNat_add, Int.toNat_mul, Int.reduceToNat, Nat.add_zero, Int.add_zero, bI_eq0, bI_B, Bool.not_true, Bool.not_false, bI_t, bI_f]
    · rw [s_mthere N _ n M (by omega) hD]; simp (disch := omega) only [gInb_t, gLt_t, gLt_f, gEq_t, gEq_f, gIx_nat, gIx_id, gIf, cond_true, cond_false, gCi_some, gCv_some, gCr_some, gB01_0, gB01_1, gBi_01, gU_same, gU_off, gW_id, Int.toNat_natCast, Int.toNat_add, Int.toNat_mul, Int.reduceToNat, Nat.add_zero, Int.add_zero, bI_eq0, bI_B, Bool.not_true, Bool.not_false, bI_t, bI_f]
  obtain ⟨u, lt, T, G', u1, u2, u3, u4, u5, u6⟩ := id hU
  by_cases h9 : a = 8
  · subst h9
    refine kPair_ro (u : Int) hI (c1.trans ?_) (c2.trans ?_)
    · simp (disch := omega) only [gInb_t, gLt_t, gLt_f, gEq_t, gEq_f, gIx_nat, gIx_id, gIf, cond_true, cond_false, gCi_some, gCv_some, gCr_some, gB01_0, gB01_1, gBi_01, gU_same, gU_off, gW_id, Int.toNat_natCast, Int.toNat_add, Int.toNat_mul, Int.reduceToNat, Nat.add_zero, Int.add_zero, bI_eq0, bI_B, Bool.not_true, Bool.not_false, bI_t, bI_f, u3]
    · simp (disch := omega) only [gInb_t, gLt_t, gLt_f, gEq_t, gEq_f, gIx_nat, gIx_id, gIf, cond_true, cond_false, gCi_some, gCv_some, gCr_some, gB01_0, gB01_1, gBi_01, gU_same, gU_off, gW_id, Int.toNat_natCast, Int.toNat_add, Int.toNat_mul, Int.reduceToNat, Nat.add_zero, Int.add_zero, bI_eq0, bI_B, Bool.not_true, Bool.not_false, bI_t, bI_f, u5]
  by_cases h10 : a = 9
  · subst h10
    refine kPair_ro (l : Int) hI (c1.trans ?_) (c2.trans ?_)
    · simp (disch := omega) only [gInb_t, gLt_t, gLt_f, gEq_t, gEq_f, gIx_nat, gIx_id, gIf, cond_true, cond_false, gCi_some, gCv_some, gCr_some, gB01_0, gB01_1, gBi_01, gU_same, gU_off, gW_id, Int.toNat_natCast, Int.toNat_add, Int.toNat_mul, Int.reduceToNat, Nat.add_zero, Int.add_zero, bI_eq0, bI_B, Bool.not_true, Bool.not_false, bI_t, bI_f, hX.2.1]
    · simp (disch := omega) only [gInb_t, gLt_t, gLt_f, gEq_t, gEq_f, gIx_nat, gIx_id, gIf, cond_true, cond_false, gCi_some, gCv_some, gCr_some, gB01_0, gB01_1, gBi_01, gU_same, gU_off, gW_id, Int.toNat_natCast, Int.toNat_add, Int.toNat_mul, Int.reduceToNat, Nat.add_zero, Int.add_zero, bI_eq0, bI_B, Bool.not_true, Bool.not_false, bI_t, bI_f, hX.2.2.1]
  refine kPair_ro (-3) hI (c1.trans ?_) (c2.trans ?_)
  · simp (disch := omega) only [gInb_t, gLt_t, gLt_f, gEq_t, gEq_f, gIx_nat, gIx_id, gIf, cond_true, cond_false, gCi_some, gCv_some, gCr_some, gB01_0, gB01_1, gBi_01, gU_same, gU_off, gW_id, Int.toNat_natCast, Int.toNat_add, Int.toNat_mul, Int.reduceToNat, Nat.add_zero, Int.add_zero, bI_eq0, bI_B, Bool.not_true, Bool.not_false, bI_t, bI_f]
  · simp (disch := omega) only [gInb_t, gLt_t, gLt_f, gEq_t, gEq_f, gIx_nat, gIx_id, gIf, cond_true, cond_false, gCi_some, gCv_some, gCr_some, gB01_0, gB01_1, gBi_01, gU_same, gU_off, gW_id, Int.toNat_natCast, Int.toNat_add, Int.toNat_mul, Int.reduceToNat, Nat.add_zero, Int.add_zero, bI_eq0, bI_B, Bool.not_true, Bool.not_false, bI_t, bI_f]
