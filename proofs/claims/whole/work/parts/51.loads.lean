-- 51: loads, who is ahead, places
def ld (K : Nat → Nat) (F : Nat → List Int) (c p : Nat) : Int := loadK (K p) (kFd K F c p)
theorem sumL_bd : ∀ l : List Int, (∀ x ∈ l, 1 ≤ x ∧ x ≤ 99) → 0 ≤ sumL l ∧ sumL l ≤ 99 * (l.length : Int)
  | [], _ => by simp [sumL]
  | x :: l, h => by
    have h1 := h x (by simp)
    have h2 := sumL_bd l (fun y hy => h y (by simp [hy]))
    simp only [sumL, List.length_cons]
    omega
theorem maxL_bd : ∀ (l : List Int) (m : Int), 0 ≤ m → m ≤ 99 → (∀ x ∈ l, 1 ≤ x ∧ x ≤ 99) → m ≤ maxL m l ∧ maxL m l ≤ 99
  | [], m, h0, h1, _ => ⟨Int.le_refl _, h1⟩
  | x :: l, m, h0, h1, h => by
    have h2 := h x (by simp)
    simp only [maxL]
    split
    · have := maxL_bd l x (by omega) (by omega) (fun y hy => h y (by simp [hy]))
      omega
    · exact maxL_bd l m h0 h1 (fun y hy => h y (by simp [hy]))
theorem loadK_bd {k : Nat} (hk : k < 5) {l : List Int} (h : kOkL l) : 0 ≤ loadK k l ∧ loadK k l ≤ 400 := by
  obtain ⟨h3, hw⟩ := h
  have h1 := sumL_bd l hw
  have h2 := maxL_bd l 0 (by omega) (by omega) hw
  match k, hk with
  | 0, _ => simp only [loadK]; omega
  | 1, _ => simp only [loadK]; omega
  | 2, _ => simp only [loadK]; split <;> omega
  | 3, _ => simp only [loadK]; omega
  | 4, _ =>
    simp only [loadK]
    rw [gDiv_id (by omega) (by omega) (by omega) (by omega)]
    omega
theorem ld_bd {K : Nat → Nat} {F : Nat → List Int} {c p : Nat} (hk : K p < 5) (h : kOkL (F p)) : 0 ≤ ld K F c p ∧ ld K F c p ≤ 400 := loadK_bd hk (fadeL_ok (by omega) h)
/-- the people's kinds, in the class -/
def kKx (M : gM) (n : Nat) (K : Nat → Nat) : Prop := M 6 0 = (n : Int) ∧ ∀ p, p < n → K p < 5 ∧ M 7 p = ((K p : Nat) : Int)
theorem iPpl_kx {M : gM} {n : Nat} {K : Nat → Nat} (h : iPpl M n K) : kKx M n K := ⟨h.2.1, fun p hp => ⟨(h.2.2.2.2 p hp).1, (h.2.2.2.2 p hp).2.1⟩⟩
theorem s_xloadAs (N d g p n k c : Nat) (t : Int) (F : Nat → List Int) (M : gM) (hN : 10 ≤ N) (hn : n ≤ 7) (hp : p < n) (hk : k < 5) (hg : gPl g) (hc : c ≤ 60) (hF : kOk n t F) (hG : kG M n g t F) : gEv N (d + 2) 12 [.inr (.inr (g + 1)), .inl (p : Int), .inl (k : Int), .inl (c : Int)] M = some (M, some (.inl (loadK k (fadeL ((c * fadesN k : Nat) : Int) (F p))))) := by
  have h1 := hF.2.2 p hp
  obtain ⟨h2, h3⟩ := hG.2 p hp
  have hl := gAtL_list h3
  rw [s_loadAs N d g p k c (F p).length M (by omega) hg (by omega) hk hc h2 h1.1 (fun j hj => by
    rw [h3 j hj]
    have : (F p).getD j 0 ∈ F p := by
      rw [List.getD_eq_getElem?_getD, List.getElem?_eq_getElem hj]
      exact List.getElem_mem hj
    exact h1.2 _ this), hl]
theorem s_xload (N d p n c : Nat) (K : Nat → Nat) (t : Int) (F : Nat → List Int) (M : gM) (hN : 10 ≤ N) (hn : n ≤ 7) (hp : p < n) (hc : c ≤ 60) (hK : kKx M n K) (hF : kOk n t F) (hG : kG M n 8 t F) : gEv N (d + 3) 27 [.inr (.inr 7), .inl (p : Int), .inl (c : Int)] M = some (M, some (.inl (ld K F c p))) := by
  obtain ⟨h4, h5⟩ := hK.2 p hp
  rw [q_X5_load, gIx_e (x := (p : Int)) (n := p) rfl (by omega), h5, s_xloadAs N d 8 p n (K p) c t F M hN hn hp h4 kPl8 hc hF hG, gCi_some]
  simp (disch := omega) only [gInb_t, gLt_t, gLt_f, gEq_t, gEq_f, gIx_nat, gIx_id, gIf, cond_true, cond_false, gCi_some, gCv_some, gCr_some, gB01_0, gB01_1, gBi_01, gU_same, gU_off, gW_id, Int.toNat_natCast, Int.toNat_add, Int.toNat_mul, Int.reduceToNat, Nat.add_zero, Int.add_zero]
  rfl
theorem s_mload (N d p n c b : Nat) (K : Nat → Nat) (t : Int) (F : Nat → List Int) (M : gM) (hN : 10 ≤ N) (hn : n ≤ 7) (hp : p < n) (hb : b ≤ 414) (hK : kKm M n K) (hF : ∀ q, q < n → kOkL (F q)) (hG : kH M n b t (kFd K F c)) : gEv N (d + 3) 120 [.inr (.inr 82), .inl (b : Int), .inl (p : Int)] M = some (M, some (.inl (ld K F c p))) := by
  have h1 := kFd_ok (K := K) (c := c) hF p hp
  obtain ⟨h2, h3⟩ := hG.2 p hp
  obtain ⟨h4, h5⟩ := hK.2 p hp
  have hl := gAtL_list h3
  rw [s_load N d b p (K p) (kFd K F c p).length M (by omega) hb (by omega) h4 h5 h2 h1.1 (fun j hj => by
    rw [h3 j hj]
    have : (kFd K F c p).getD j 0 ∈ kFd K F c p := by
      rw [List.getD_eq_getElem?_getD, List.getElem?_eq_getElem hj]
      exact List.getElem_mem hj
    exact h1.2 _ this), hl]
  rfl
theorem kH_z {M : gM} {n b : Nat} {K : Nat → Nat} {t t' : Int} {F : Nat → List Int} (hF : kOk n t' F) (h : kH M n b t F) : kH M n b t (kFd K F 0) := kH_ext h rfl (fun p hp => (kFd_zero (hF.2.2 p hp)).symm)
/-- p is ahead of o in the order behind c lents -/
def ahB (K : Nat → Nat) (F : Nat → List Int) (c p o : Nat) : Bool := decide (0 < ld K F c p) && (decide (ld K F c o < ld K F c p) || (decide (ld K F c p = ld K F c o) && decide (p < o)))
theorem s_xahead (N d p o n c : Nat) (K : Nat → Nat) (t : Int) (F : Nat → List Int) (M : gM) (hN : 10 ≤ N) (hn : n ≤ 7) (hp : p < n) (ho : o < n) (hc : c ≤ 60) (hK : kKx M n K) (hF : kOk n t F) (hG : kG M n 8 t F) : gEv N (d + 4) 28 [.inr (.inr 7), .inl (p : Int), .inl (o : Int), .inl (c : Int)] M = some (M, some (.inl (bI (ahB K F c p o)))) := by
  have b1 := ld_bd (c := c) (hK.2 p hp).1 (hF.2.2 p hp)
  have b2 := ld_bd (c := c) (hK.2 o ho).1 (hF.2.2 o ho)
  rw [q_X5_isAhead, s_xload N d p n c K t F M hN hn hp hc hK hF hG, gCi_some, s_xload N d o n c K t F M hN hn ho hc hK hF hG, gCi_some]
  simp only [ahB]
  generalize ld K F c p = x at *
  generalize ld K F c o = y at *
  rw [gLt_id (by omega) (by omega) (by omega) (by omega), gLt_id (by omega) (by omega) (by omega) (by omega), gLt_id (by omega) (by omega) (by omega) (by omega), gEq_id (by omega) (by omega) (by omega) (by omega)]
  simp only [Int.ofNat_lt]
  generalize decide (0 < x) = d1
  generalize decide (y < x) = d2
  generalize decide (x = y) = d3
  generalize decide (p < o) = d4
  cases d1 <;> cases d2 <;> cases d3 <;> cases d4 <;> simp [gIf, gB01_0, gB01_1, bI]
theorem s_mahead (N d p o n c b : Nat) (K : Nat → Nat) (t : Int) (F : Nat → List Int) (M : gM) (hN : 10 ≤ N) (hn : n ≤ 7) (hp : p < n) (ho : o < n) (hb : b ≤ 414) (hK : kKm M n K) (hF : ∀ q, q < n → kOkL (F q)) (hG : kH M n b t (kFd K F c)) : gEv N (d + 4) 125 [.inr (.inr 82), .inl (b : Int), .inl (p : Int), .inl (o : Int)] M = some (M, some (.inl (bI (ahB K F c p o)))) := by
  have b1 := ld_bd (c := c) (hK.2 p hp).1 (hF p hp)
  have b2 := ld_bd (c := c) (hK.2 o ho).1 (hF o ho)
  rw [q_X10_isAhead, s_mload N d p n c b K t F M hN hn hp hb hK hF hG, gCi_some, s_mload N d o n c b K t F M hN hn ho hb hK hF hG, gCi_some]
  simp only [ahB]
  generalize ld K F c p = x at *
  generalize ld K F c o = y at *
  rw [gLt_id (by omega) (by omega) (by omega) (by omega), gLt_id (by omega) (by omega) (by omega) (by omega), gLt_id (by omega) (by omega) (by omega) (by omega), gEq_id (by omega) (by omega) (by omega) (by omega)]
  simp only [Int.ofNat_lt]
  by_cases h2 : y < x
  · rw [decide_eq_true h2, decide_eq_true (show 0 < x by omega)]
    simp [gIf, gB01_1, bI]
  · rw [decide_eq_false h2]
    generalize decide (0 < x) = d1
    generalize decide (x = y) = d3
    generalize decide (p < o) = d4
    cases d1 <;> cases d3 <;> cases d4 <;> simp [gIf, gB01_0, gB01_1, bI]
/-- of how many of r numbers from k on f holds -/
def cB (f : Nat → Bool) (k : Nat) : Nat → Nat
  | 0 => 0
  | r + 1 => cond (f k) 1 0 + cB f (k + 1) r
theorem cB_le (f : Nat → Bool) : ∀ (r k : Nat), cB f k r ≤ r
  | 0, _ => Nat.le_refl 0
  | r + 1, k => by
    have := cB_le f r (k + 1)
    simp only [cB]
    cases f k <;> simp <;> omega
/-- the sum of f over r numbers from k on -/
def cS (f : Nat → Int) (k : Nat) : Nat → Int
  | 0 => 0
  | r + 1 => f k + cS f (k + 1) r
/-- the first of r numbers from k on of which f holds; none: -1 -/
def fB (f : Nat → Bool) (k : Nat) : Nat → Int
  | 0 => -1
  | r + 1 => cond (f k) (k : Int) (fB f (k + 1) r)
theorem cast_1 (k : Nat) : (k : Int) + 1 = ((k + 1 : Nat) : Int) := by omega
theorem l_xplace (C : gCl) (n p : Nat) (c : Int) (f : Nat → Bool) (M : gM) (hn : n ≤ 7) (hp : p < n) (h6 : M 6 0 = (n : Int)) (hC : ∀ j, j < n → C 28 [.inr (.inr 7), .inl (j : Int), .inl (p : Int), .inl c] M = some (M, some (.inl (bI (f j))))) : ∀ (r k z a : Nat), k + r = n → r < z → L_X5_placeOf_17 C z (p : Int) c (a : Int) (k : Int) M = some (M, some (.inl ((a + cB (fun j => !(j == p) && f j) k r : Nat) : Int))) := by
  intro r
  induction r with
  | zero =>
    intro k z a hk hz
    obtain ⟨z, rfl⟩ : ∃ y, z = y + 1 := ⟨z - 1, by omega⟩
    rw [q_X5_placeOf_17, h6]
    simp (disch := omega) only [gInb_t, gLt_t, gLt_f, gEq_t, gEq_f, gIx_nat, gIx_id, gIf, cond_true, cond_false, gCi_some, gCv_some, gCr_some, gB01_0, gB01_1, gBi_01, gU_same, gU_off, gW_id, Int.toNat_natCast, Int.toNat_add, Int.toNat_mul, Int.reduceToNat, Nat.add_zero, Int.add_zero, cB]
  | succ r ih =>
    intro k z a hk hz
    obtain ⟨z, rfl⟩ : ∃ y, z = y + 1 := ⟨z - 1, by omega⟩
    rw [q_X5_placeOf_17, h6, hC k (by omega), cast_1 k, cast_1 a]
    simp only [gCi_some, bI_eq0, ih (k + 1) z _ (by omega) (by omega), cB]
    by_cases h1 : k = p
    · simp (disch := omega) only [gInb_t, gLt_t, gLt_f, gEq_t, gEq_f, gIx_nat, gIx_id, gIf, cond_true, cond_false, gCi_some, gCv_some, gCr_some, gB01_0, gB01_1, gBi_01, gU_same, gU_off, gW_id, Int.toNat_natCast, Int.toNat_add, Int.toNat_mul, Int.reduceToNat, Nat.add_zero, Int.add_zero, h1, beq_self_eq_true]
      simp
    · simp (disch := omega) only [gInb_t, gLt_t, gLt_f, gEq_t, gEq_f, gIx_nat, gIx_id, gIf, cond_true, cond_false, gCi_some, gCv_some, gCr_some, gB01_0, gB01_1, gBi_01, gU_same, gU_off, gW_id, Int.toNat_natCast, Int.toNat_add, Int.toNat_mul, Int.reduceToNat, Nat.add_zero, Int.add_zero]
      have hb : (k == p) = false := by simpa using h1
      cases hf : f k <;> simp [hb, Nat.add_assoc]
theorem l_mplace (C : gCl) (n p : Nat) (b : Int) (f : Nat → Bool) (M : gM) (hn : n ≤ 7) (hp : p < n) (h6 : M 82 29 = (n : Int)) (hC : ∀ j, j < n → C 125 [.inr (.inr 82), .inl b, .inl (j : Int), .inl (p : Int)] M = some (M, some (.inl (bI (f j))))) : ∀ (r k z a : Nat), k + r = n → r < z → L_X10_placeOf_16 C z b (p : Int) (a : Int) (k : Int) M = some (M, some (.inl ((a + cB (fun j => !(j == p) && f j) k r : Nat) : Int))) := by
  intro r
  have h29 : gIx 29 = 29 := gIx_e (n := 29) rfl (by omega)
  induction r with
  | zero =>
    intro k z a hk hz
    obtain ⟨z, rfl⟩ : ∃ y, z = y + 1 := ⟨z - 1, by omega⟩
    rw [q_X10_placeOf_16, h29, h6]
    simp (disch := omega) only [gInb_t, gLt_t, gLt_f, gEq_t, gEq_f, gIx_nat, gIx_id, gIf, cond_true, cond_false, gCi_some, gCv_some, gCr_some, gB01_0, gB01_1, gBi_01, gU_same, gU_off, gW_id, Int.toNat_natCast, Int.toNat_add, Int.toNat_mul, Int.reduceToNat, Nat.add_zero, Int.add_zero, cB]
  | succ r ih =>
    intro k z a hk hz
    obtain ⟨z, rfl⟩ : ∃ y, z = y + 1 := ⟨z - 1, by omega⟩
    rw [q_X10_placeOf_16, h29, h6, hC k (by omega), cast_1 k, cast_1 a]
    simp only [gCi_some, bI_eq0, Int.add_zero, ih (k + 1) z _ (by omega) (by omega), cB]
    by_cases h1 : k = p
    · simp (disch := omega) only [gInb_t, gLt_t, gLt_f, gEq_t, gEq_f, gIx_nat, gIx_id, gIf, cond_true, cond_false, gCi_some, gCv_some, gCr_some, gB01_0, gB01_1, gBi_01, gU_same, gU_off, gW_id, Int.toNat_natCast, Int.toNat_add, Int.toNat_mul, Int.reduceToNat, Nat.add_zero, Int.add_zero, h1, beq_self_eq_true]
      simp
    · simp (disch := omega) only [gInb_t, gLt_t, gLt_f, gEq_t, gEq_f, gIx_nat, gIx_id, gIf, cond_true, cond_false, gCi_some, gCv_some, gCr_some, gB01_0, gB01_1, gBi_01, gU_same, gU_off, gW_id, Int.toNat_natCast, Int.toNat_add, Int.toNat_mul, Int.reduceToNat, Nat.add_zero, Int.add_zero]
      have hb : (k == p) = false := by simpa using h1
      cases hf : f k <;> simp [hb, Nat.add_assoc]
/-- as the how manieth one goes in -/
def plN (K : Nat → Nat) (F : Nat → List Int) (n c p : Nat) : Int := if ld K F c p < 1 then -1 else ((cB (fun j => !(j == p) && ahB K F c j p) 0 n : Nat) : Int)
theorem plN_bd (K : Nat → Nat) (F : Nat → List Int) (n c p : Nat) : -1 ≤ plN K F n c p ∧ plN K F n c p ≤ n := by
  unfold plN
  have := cB_le (fun j => !(j == p) && ahB K F c j p) n 0
  split <;> omega
theorem s_xplace (N d p n c : Nat) (K : Nat → Nat) (t : Int) (F : Nat → List Int) (M : gM) (hN : 10 ≤ N) (hn : n ≤ 7) (hp : p < n) (hc : c ≤ 60) (hK : kKx M n K) (hF : kOk n t F) (hG : kG M n 8 t F) : gEv N (d + 5) 29 [.inr (.inr 7), .inl (p : Int), .inl (c : Int)] M = some (M, some (.inl (plN K F n c p))) := by
  have b1 := ld_bd (c := c) (hK.2 p hp).1 (hF.2.2 p hp)
  have hl := l_xplace (gEv N (d + 4)) n p c (fun j => ahB K F c j p) M hn hp hK.1 (fun j hj => s_xahead N d j p n c K t F M hN hn hj hp hc hK hF hG) n 0 N 0 (by omega) (by omega)
  rw [q_X5_placeOf, s_xload N (d + 1) p n c K t F M hN hn hp hc hK hF hG, gCi_some]
  unfold plN
  by_cases h1 : ld K F c p < 1
  · rw [if_pos h1]; simp (disch := omega) only [gInb_t, gLt_t, gLt_f, gEq_t, gEq_f, gIx_nat, gIx_id, gIf, cond_true, cond_false, gCi_some, gCv_some, gCr_some, gB01_0, gB01_1, gBi_01, gU_same, gU_off, gW_id, Int.toNat_natCast, Int.toNat_add, Int.toNat_mul, Int.reduceToNat, Nat.add_zero, Int.add_zero]
  · rw [if_neg h1]; simp (disch := omega) only [gInb_t, gLt_t, gLt_f, gEq_t, gEq_f, gIx_nat, gIx_id, gIf, cond_true, cond_false, gCi_some, gCv_some, gCr_some, gB01_0, gB01_1, gBi_01, gU_same, gU_off, gW_id, Int.toNat_natCast, Int.toNat_add, Int.toNat_mul, Int.reduceToNat, Nat.add_zero, Int.add_zero]
    refine Eq.trans hl ?_
    rw [Nat.zero_add]
theorem s_mplace (N d p n c b : Nat) (K : Nat → Nat) (t : Int) (F : Nat → List Int) (M : gM) (hN : 10 ≤ N) (hn : n ≤ 7) (hp : p < n) (hb : b ≤ 414) (hK : kKm M n K) (hF : ∀ q, q < n → kOkL (F q)) (hG : kH M n b t (kFd K F c)) : gEv N (d + 5) 126 [.inr (.inr 82), .inl (b : Int), .inl (p : Int)] M = some (M, some (.inl (plN K F n c p))) := by
  have b1 := ld_bd (c := c) (hK.2 p hp).1 (hF p hp)
  have hl := l_mplace (gEv N (d + 4)) n p b (fun j => ahB K F c j p) M hn hp hK.1 (fun j hj => s_mahead N d j p n c b K t F M hN hn hj hp hb hK hF hG) n 0 N 0 (by omega) (by omega)
  rw [q_X10_placeOf, s_mload N (d + 1) p n c b K t F M hN hn hp hb hK hF hG, gCi_some]
  unfold plN
  by_cases h1 : ld K F c p < 1
  · rw [if_pos h1]; simp (disch := omega) only [gInb_t, gLt_t, gLt_f, gEq_t, gEq_f, gIx_nat, gIx_id, gIf, cond_true, cond_false, gCi_some, gCv_some, gCr_some, gB01_0, gB01_1, gBi_01, gU_same, gU_off, gW_id, Int.toNat_natCast, Int.toNat_add, Int.toNat_mul, Int.reduceToNat, Nat.add_zero, Int.add_zero]
  · rw [if_neg h1]; simp (disch := omega) only [gInb_t, gLt_t, gLt_f, gEq_t, gEq_f, gIx_nat, gIx_id, gIf, cond_true, cond_false, gCi_some, gCv_some, gCr_some, gB01_0, gB01_1, gBi_01, gU_same, gU_off, gW_id, Int.toNat_natCast, Int.toNat_add, Int.toNat_mul, Int.reduceToNat, Nat.add_zero, Int.add_zero]
    refine Eq.trans hl ?_
    rw [Nat.zero_add]
