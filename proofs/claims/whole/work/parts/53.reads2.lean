-- 53: grief, as
theorem p_grief (N d : Nat) (a b : Int) (M : gM) (hN : 100000 ≤ N) (hI : kInv M) (ha : rng a) (hb : rng b) : kPair N (d + 20) 58 128 [.inl a, .inl b] M := by
  obtain ⟨n, K, t, F, G, c, A, B, c', A', B', l, s, h⟩ := id hI
  obtain ⟨hP, hW, hT, hQ, hQ', hX, hU, hKp, hS, hD, hw, hz⟩ := id h
  have hn := hP.1
  have h6 := hP.2.1
  have m29 := hP.2.2.1
  have hKx := iPpl_kx hP
  have hKm := iPpl_km hP
  obtain ⟨hOk, hG8, hH0⟩ := id hW
  have hb1 := hb.1
  have hb2 := hb.2
  by_cases hp : 0 ≤ a ∧ a < (n : Int)
  · obtain ⟨p, rfl⟩ : ∃ p : Nat, a = (p : Int) := ⟨a.toNat, by omega⟩
    have hpn : p < n := by omega
    obtain ⟨x9, x10⟩ := hG8.2 p hpn
    obtain ⟨m21, m0⟩ := hH0.2 p hpn
    simp only [Nat.zero_add] at m21 m0
    have hl3 := (hOk.2.2 p hpn).1
    have c1 : gEv N (d + 20) 58 [.inr (.inr 1), .inl (p : Int), .inl b] M = _ := q_X9_grief N (d + 19) _ _ M
    have c2 : gEv N (d + 20) 128 [.inr (.inr 82), .inl (p : Int), .inl b] M = _ := q_X10_grief N (d + 19) _ _ M
    rw [s_xhas _ _ n _ _ hn h6 ha, decide_eq_true hp, gCi_some, s_xin N _ b 0 2 M hb (rng_c (by omega) (by omega)) (rng_c (by omega) (by omega)), gCi_some] at c1
    rw [s_mhas _ _ n _ _ hn m29 ha, decide_eq_true hp, gCi_some, s_min N _ b 0 2 (((0 : Nat) : Int)) (((2 : Nat) : Int) - ((0 : Nat) : Int)) M hb (rng_c (by omega) (by omega)) (rng_c (by omega) (by omega)) rfl rfl, gCi_some] at c2
    by_cases h0 : 0 ≤ b ∧ b ≤ 2
    · rw [decide_eq_true h0] at c1 c2
      obtain ⟨k, rfl⟩ : ∃ k : Nat, b = (k : Int) := ⟨b.toNat, by omega⟩
      by_cases h1 : k < (F p).length
      · have e1 := x10 k h1
        have e2 := m0 k h1
        refine kPair_ro ((F p).getD k 0) hI (c1.trans ?_) (c2.trans ?_)
        · rw [gIx_e (x := (p : Int)) (n := p) rfl (by omega), x9, s_weight N _ 8 p k M kPl8 (by omega) (by omega), e1]; simp (disch := omega) only [gInb_t, gLt_t, gLt_f, gEq_t, gEq_f, gIx_nat, gIx_id, gIf, cond_true, cond_false, gCi_some, gCv_some, gCr_some, gB01_0, gB01_1, gBi_01, gU_same, gU_off, gW_id, Int.toNat_natCast, Int.toNat_add, Int.toNat_mul, Int.reduceToNat, Nat.add_zero, Int.add_zero, bI_eq0, bI_B, Bool.not_true, Bool.not_false, bI_t, bI_f]
        · rw [gIx_e (x := 21 + (p : Int)) (n := 21 + p) (by omega) (by omega), m21, gIx_e (x := (0 + 3 * (p : Int)) + (k : Int)) (n := 3 * p + k) (by omega) (by omega), e2]; simp (disch := omega) only [gInb_t, gLt_t, gLt_f, gEq_t, gEq_f, gIx_nat, gIx_id, gIf, cond_true, cond_false, gCi_some, gCv_some, gCr_some, gB01_0, gB01_1, gBi_01, gU_same, gU_off, gW_id, Int.toNat_natCast, Int.toNat_add, Int.toNat_mul, Int.reduceToNat, Nat.add_zero, Int.add_zero, bI_eq0, bI_B, Bool.not_true, Bool.not_false, bI_t, bI_f]
      · refine kPair_ro (-1) hI (c1.trans ?_) (c2.trans ?_)
        · rw [gIx_e (x := (p : Int)) (n := p) rfl (by omega), x9]; simp (disch := omega) only [gInb_t, gLt_t, gLt_f, gEq_t, gEq_f, gIx_nat, gIx_id, gIf, cond_true, cond_false, gCi_some, gCv_some, gCr_some, gB01_0, gB01_1, gBi_01, gU_same, gU_off, gW_id, Int.toNat_natCast, Int.toNat_add, Int.toNat_mul, Int.reduceToNat, Nat.add_zero, Int.add_zero, bI_eq0, bI_B, Bool.not_true, Bool.not_false, bI_t, bI_f]
        · rw [gIx_e (x := 21 + (p : Int)) (n := 21 + p) (by omega) (by omega), m21]; simp (disch := omega) only [gInb_t, gLt_t, gLt_f, gEq_t, gEq_f, gIx_nat, gIx_id, gIf, cond_true, cond_false, gCi_some, gCv_some, gCr_some, gB01_0, gB01_1, gBi_01, gU_same, gU_off, gW_id, Int.toNat_natCast, Int.toNat_add, Int.toNat_mul, Int.reduceToNat, Nat.add_zero, Int.add_zero, bI_eq0, bI_B, Bool.not_true, Bool.not_false, bI_t, bI_f]
    · rw [decide_eq_false h0] at c1 c2
      refine kPair_ro (-3) hI (c1.trans ?_) (c2.trans ?_)
      · simp (disch := omega) only [gInb_t, gLt_t, gLt_f, gEq_t, gEq_f, gIx_nat, gIx_id, gIf, cond_true, cond_false, gCi_some, gCv_some, gCr_some, gB01_0, gB01_1, gBi_01, gU_same, gU_off, gW_id, Int.toNat_natCast, Int.toNat_add, Int.toNat_mul, Int.reduceToNat, Nat.add_zero, Int.add_zero, bI_eq0, bI_B, Bool.not_true, Bool.not_false, bI_t, bI_f]
      · simp (disch := omega) only [gInb_t, gLt_t, gLt_f, gEq_t, gEq_f, gIx_nat, gIx_id, gIf, cond_true, cond_false, gCi_some, gCv_some, gCr_some, gB01_0, gB01_1, gBi_01, gU_same, gU_off, gW_id, Int.toNat_natCast, Int.toNat_add, Int.toNat_mul, Int.reduceToNat, Nat.add_zero, Int.add_zero, bI_eq0, bI_B, Bool.not_true, Bool.not_false, bI_t, bI_f]
  · refine kPair_ro (-2) hI ?_ ?_
    · rw [q_X9_grief, s_xhas _ _ n _ _ hn h6 ha, decide_eq_false hp]; simp (disch := omega) only [gInb_t, gLt_t, gLt_f, gEq_t, gEq_f, gIx_nat, gIx_id, gIf, cond_true, cond_false, gCi_some, gCv_some, gCr_some, gB01_0, gB01_1, gBi_01, gU_same, gU_off, gW_id, Int.toNat_natCast, Int.toNat_add, Int.toNat_mul, Int.reduceToNat, Nat.add_zero, Int.add_zero, bI_eq0, bI_B, Bool.not_true, Bool.not_false, bI_t, bI_f]
    · rw [q_X10_grief, s_mhas _ _ n _ _ hn m29 ha, decide_eq_false hp]; simp (disch := omega) only [gInb_t, gLt_t, gLt_f, gEq_t, gEq_f, gIx_nat, gIx_id, gIf, cond_true, cond_false, gCi_some, gCv_some, gCr_some, gB01_0, gB01_1, gBi_01, gU_same, gU_off, gW_id, Int.toNat_natCast, Int.toNat_add, Int.toNat_mul, Int.reduceToNat, Nat.add_zero, Int.add_zero, bI_eq0, bI_B, Bool.not_true, Bool.not_false, bI_t, bI_f]
/-- whether one of a kind is such -/
def suB (k a : Nat) : Bool := a == 0 || a == k + 1 || (a == 1 && decide (k < 3)) || (a == 4 && k == 4)
theorem ovTab1 : gIx 1 = 1 := gIx_e (n := 1) rfl (by omega)
theorem ovTab2 : gIx 2 = 2 := gIx_e (n := 2) rfl (by omega)
theorem ovTab3 : gIx 3 = 3 := gIx_e (n := 3) rfl (by omega)
theorem ovTab4 : gIx 4 = 4 := gIx_e (n := 4) rfl (by omega)
theorem ovTab5 : gIx 5 = 5 := gIx_e (n := 5) rfl (by omega)
theorem ovA (C : gCl) (z : Nat) (x0 x1 x2 y : Int) (j : Nat) (M : gM) (hj : j < 5) (hx : x2 = (j : Int) + 1) (h1 : rng x1) (hy : ((List.getD [0, 1, 2, 2, 1, 5] (j + 1) 0 : Nat) : Int) - 1 = y) (k : Nat) (hk : k < 6) : L_X9_isSuch_6 C (z + 1) x0 x1 x2 (k : Int) M = if x2 = x1 then some (M, some (.inl 1)) else L_X9_isSuch_6 C z x0 x1 y ((k + 1 : Nat) : Int) M := by
  obtain ⟨h1, h2⟩ := h1
  rw [q_X9_isSuch_6, gIx_e (x := x2) (n := j + 1) (by omega) (by omega), hy, cast_1 k]
  by_cases h : x2 = x1
  · rw [if_pos h]; simp (disch := omega) only [gInb_t, gLt_t, gLt_f, gEq_t, gEq_f, gIx_nat, gIx_id, gIf, cond_true, cond_false, gCi_some, gCv_some, gCr_some, gB01_0, gB01_1, gBi_01, gU_same, gU_off, gW_id, Int.toNat_natCast, Int.toNat_add, Int.toNat_mul, Int.reduceToNat, Nat.add_zero, Int.add_zero, bI_eq0, bI_B, Bool.not_true, Bool.not_false, bI_t, bI_f]
  · rw [if_neg h]; simp (disch := omega) only [gInb_t, gLt_t, gLt_f, gEq_t, gEq_f, gIx_nat, gIx_id, gIf, cond_true, cond_false, gCi_some, gCv_some, gCr_some, gB01_0, gB01_1, gBi_01, gU_same, gU_off, gW_id, Int.toNat_natCast, Int.toNat_add, Int.toNat_mul, Int.reduceToNat, Nat.add_zero, Int.add_zero, bI_eq0, bI_B, Bool.not_true, Bool.not_false, bI_t, bI_f]
theorem ovB (C : gCl) (z : Nat) (x0 x1 : Int) (M : gM) (h1 : rng x1) (k : Nat) (hk : k < 6) : L_X9_isSuch_6 C (z + 1) x0 x1 0 (k : Int) M = some (M, some (.inl (if 0 = x1 then 1 else 0))) := by
  obtain ⟨h1, h2⟩ := h1
  rw [q_X9_isSuch_6]
  by_cases h : 0 = x1
  · rw [if_pos h]; simp (disch := omega) only [gInb_t, gLt_t, gLt_f, gEq_t, gEq_f, gIx_nat, gIx_id, gIf, cond_true, cond_false, gCi_some, gCv_some, gCr_some, gB01_0, gB01_1, gBi_01, gU_same, gU_off, gW_id, Int.toNat_natCast, Int.toNat_add, Int.toNat_mul, Int.reduceToNat, Nat.add_zero, Int.add_zero, bI_eq0, bI_B, Bool.not_true, Bool.not_false, bI_t, bI_f]
  · rw [if_neg h]; simp (disch := omega) only [gInb_t, gLt_t, gLt_f, gEq_t, gEq_f, gIx_nat, gIx_id, gIf, cond_true, cond_false, gCi_some, gCv_some, gCr_some, gB01_0, gB01_1, gBi_01, gU_same, gU_off, gW_id, Int.toNat_natCast, Int.toNat_add, Int.toNat_mul, Int.reduceToNat, Nat.add_zero, Int.add_zero, bI_eq0, bI_B, Bool.not_true, Bool.not_false, bI_t, bI_f]
theorem s_isSuch (N d k a : Nat) (M : gM) (hN : 10 ≤ N) (hk : k < 5) (ha : a < 6) : gEv N (d + 1) 94 [.inl (k : Int), .inl (a : Int)] M = some (M, some (.inl (bI (suB k a)))) := by
  have hr : rng (a : Int) := rng_c (by omega) (by omega)
  obtain ⟨z, rfl⟩ : ∃ z, N = z + 3 := ⟨N - 3, by omega⟩
  rw [q_X9_isSuch]
  have e0 : (0 : Int) = ((0 : Nat) : Int) := rfl
  match k, hk with
  | 0, _ =>
    have := ovA (gEv (z + 3) d) (z + 2) ((0 : Nat) : Int) (a : Int) (((0 : Nat) : Int) + 1) 0 0 M (by omega) rfl hr rfl 0 (by omega)
    refine this.trans ?_
    rw [ovB _ _ _ _ M hr 1 (by omega)]
    rcases (by omega : a = 0 ∨ a = 1 ∨ a = 2 ∨ a = 3 ∨ a = 4 ∨ a = 5) with rfl | rfl | rfl | rfl | rfl | rfl <;> rfl
  | 1, _ =>
    have := ovA (gEv (z + 3) d) (z + 2) ((1 : Nat) : Int) (a : Int) (((1 : Nat) : Int) + 1) 1 1 M (by omega) rfl hr rfl 0 (by omega)
    refine this.trans ?_
    rw [ovA (gEv (z + 3) d) (z + 1) ((1 : Nat) : Int) (a : Int) 1 0 0 M (by omega) rfl hr rfl 1 (by omega), ovB _ _ _ _ M hr 2 (by omega)]
    rcases (by omega : a = 0 ∨ a = 1 ∨ a = 2 ∨ a = 3 ∨ a = 4 ∨ a = 5) with rfl | rfl | rfl | rfl | rfl | rfl <;> rfl
  | 2, _ =>
    have := ovA (gEv (z + 3) d) (z + 2) ((2 : Nat) : Int) (a : Int) (((2 : Nat) : Int) + 1) 1 2 M (by omega) rfl hr rfl 0 (by omega)
    refine this.trans ?_
    rw [ovA (gEv (z + 3) d) (z + 1) ((2 : Nat) : Int) (a : Int) 1 0 0 M (by omega) rfl hr rfl 1 (by omega), ovB _ _ _ _ M hr 2 (by omega)]
    rcases (by omega : a = 0 ∨ a = 1 ∨ a = 2 ∨ a = 3 ∨ a = 4 ∨ a = 5) with rfl | rfl | rfl | rfl | rfl | rfl <;> rfl
  | 3, _ =>
    have := ovA (gEv (z + 3) d) (z + 2) ((3 : Nat) : Int) (a : Int) (((3 : Nat) : Int) + 1) 0 3 M (by omega) rfl hr rfl 0 (by omega)
    refine this.trans ?_
    rw [ovB _ _ _ _ M hr 1 (by omega)]
    rcases (by omega : a = 0 ∨ a = 1 ∨ a = 2 ∨ a = 3 ∨ a = 4 ∨ a = 5) with rfl | rfl | rfl | rfl | rfl | rfl <;> rfl
  | 4, _ =>
    have := ovA (gEv (z + 3) d) (z + 2) ((4 : Nat) : Int) (a : Int) (((4 : Nat) : Int) + 1) 4 4 M (by omega) rfl hr rfl 0 (by omega)
    refine this.trans ?_
    rw [ovA (gEv (z + 3) d) (z + 1) ((4 : Nat) : Int) (a : Int) 4 0 3 M (by omega) rfl hr rfl 1 (by omega), ovB _ _ _ _ M hr 2 (by omega)]
    rcases (by omega : a = 0 ∨ a = 1 ∨ a = 2 ∨ a = 3 ∨ a = 4 ∨ a = 5) with rfl | rfl | rfl | rfl | rfl | rfl <;> rfl
theorem suB_f {k a : Nat} (h0 : a ≠ 0) (h1 : a ≠ k + 1) (h2 : ¬ (a = 1 ∧ k < 3)) (h3 : ¬ (a = 4 ∧ k = 4)) : suB k a = false := by
  unfold suB
  by_cases e1 : a = 1 <;> by_cases e4 : a = 4 <;> by_cases ek : k = 4 <;> by_cases e3 : k < 3 <;> simp_all
theorem p_as (N d : Nat) (a b : Int) (M : gM) (hN : 100000 ≤ N) (hI : kInv M) (ha : rng a) (hb : rng b) : kPair N (d + 20) 59 129 [.inl a, .inl b] M := by
  obtain ⟨n, K, t, F, G, c, A, B, c', A', B', l, s, h⟩ := id hI
  obtain ⟨hP, hW, hT, hQ, hQ', hX, hU, hKp, hS, hD, hw, hz⟩ := id h
  have hn := hP.1
  have h6 := hP.2.1
  have m29 := hP.2.2.1
  have hKx := iPpl_kx hP
  have hKm := iPpl_km hP
  obtain ⟨hOk, hG8, hH0⟩ := id hW
  have hb1 := hb.1
  have hb2 := hb.2
  by_cases hp : 0 ≤ a ∧ a < (n : Int)
  · obtain ⟨p, rfl⟩ : ∃ p : Nat, a = (p : Int) := ⟨a.toNat, by omega⟩
    have hpn : p < n := by omega
    obtain ⟨k5, x7, m30, m92⟩ := hP.2.2.2.2 p hpn
    have c1 : gEv N (d + 20) 59 [.inr (.inr 1), .inl (p : Int), .inl b] M = _ := q_X9_as N (d + 19) _ _ M
    have c2 : gEv N (d + 20) 129 [.inr (.inr 82), .inl (p : Int), .inl b] M = _ := q_X10_as N (d + 19) _ _ M
    rw [s_xhas _ _ n _ _ hn h6 ha, decide_eq_true hp, gCi_some, show (((6 : Nat) : Int)) - 1 = 5 from rfl, s_xin N _ b 0 5 M hb (rng_c (by omega) (by omega)) (rng_c (by omega) (by omega)), gCi_some] at c1
    rw [s_mhas _ _ n _ _ hn m29 ha, decide_eq_true hp, gCi_some, s_min N _ b 0 5 (((0 : Nat) : Int)) (((5 : Nat) : Int) - ((0 : Nat) : Int)) M hb (rng_c (by omega) (by omega)) (rng_c (by omega) (by omega)) rfl rfl, gCi_some] at c2
    by_cases h0 : 0 ≤ b ∧ b ≤ 5
    · rw [decide_eq_true h0] at c1 c2
      obtain ⟨k, rfl⟩ : ∃ k : Nat, b = (k : Int) := ⟨b.toNat, by omega⟩
      rw [gIx_e (x := (p : Int)) (n := p) rfl (by omega), x7, s_isSuch N _ (K p) k M (by omega) k5 (by omega), gCi_some, bI_eq0, bI_eq0, s_xload0 N _ p n K t F M (by omega) hn hpn hKx hOk hG8] at c1
      rw [gIx_e (x := 30 + (p : Int)) (n := 30 + p) (by omega) (by omega), m30] at c2
      have e67 : ∀ y x2 x3, 1 ≤ y → L_X10_as_67 (gEv N (d + 19)) y (p : Int) x2 x3 M = some (M, some (.inl (ld K F 0 p))) := fun y x2 x3 hy => by
        obtain ⟨y, rfl⟩ : ∃ z, y = z + 1 := ⟨y - 1, by omega⟩
        rw [q_X10_as_67, s_mload0 _ _ p n K t F M (by omega) hn hpn hKm hOk hH0]; simp (disch := omega) only [gInb_t, gLt_t, gLt_f, gEq_t, gEq_f, gIx_nat, gIx_id, gIf, cond_true, cond_false, gCi_some, gCv_some, gCr_some, gB01_0, gB01_1, gBi_01, gU_same, gU_off, gW_id, Int.toNat_natCast, Int.toNat_add, Int.toNat_mul, Int.reduceToNat, Nat.add_zero, Int.add_zero, bI_eq0, bI_B, Bool.not_true, Bool.not_false, bI_t, bI_f]
      have e57 : ∀ y (x2 x3 : Int), 2 ≤ y → x2 = 4 → x3 = 4 → L_X10_as_57 (gEv N (d + 19)) y (p : Int) x2 x3 M = some (M, some (.inl (ld K F 0 p))) := fun y x2 x3 hy g2 g3 => by
        obtain ⟨y, rfl⟩ : ∃ z, y = z + 1 := ⟨y - 1, by omega⟩
        rw [q_X10_as_57]; simp (disch := omega) only [gInb_t, gLt_t, gLt_f, gEq_t, gEq_f, gIx_nat, gIx_id, gIf, cond_true, cond_false, gCi_some, gCv_some, gCr_some, gB01_0, gB01_1, gBi_01, gU_same, gU_off, gW_id, Int.toNat_natCast, Int.toNat_add, Int.toNat_mul, Int.reduceToNat, Nat.add_zero, Int.add_zero, bI_eq0, bI_B, Bool.not_true, Bool.not_false, bI_t, bI_f, e67]
      have e57n : ∀ y (x2 x3 : Int), 2 ≤ y → ¬ (x2 = 4 ∧ x3 = 4) → rng x2 → rng x3 → L_X10_as_57 (gEv N (d + 19)) y (p : Int) x2 x3 M = some (M, some (.inl (-4))) := fun y x2 x3 hy g2 g3 g4 => by
        obtain ⟨y, rfl⟩ : ∃ z, y = z + 1 := ⟨y - 1, by omega⟩
        obtain ⟨g5, g6⟩ := g3
        obtain ⟨g7, g8⟩ := g4
        rw [q_X10_as_57]
        by_cases g9 : x2 = 4
        · simp (disch := omega) only [gInb_t, gLt_t, gLt_f, gEq_t, gEq_f, gIx_nat, gIx_id, gIf, cond_true, cond_false, gCi_some, gCv_some, gCr_some, gB01_0, gB01_1, gBi_01, gU_same, gU_off, gW_id, Int.toNat_natCast, Int.toNat_add, Int.toNat_mul, Int.reduceToNat, Nat.add_zero, Int.add_zero, bI_eq0, bI_B, Bool.not_true, Bool.not_false, bI_t, bI_f]
        · simp (disch := omega) only [gInb_t, gLt_t, gLt_f, gEq_t, gEq_f, gIx_nat, gIx_id, gIf, cond_true, cond_false, gCi_some, gCv_some, gCr_some, gB01_0, gB01_1, gBi_01, gU_same, gU_off, gW_id, Int.toNat_natCast, Int.toNat_add, Int.toNat_mul, Int.reduceToNat, Nat.add_zero, Int.add_zero, bI_eq0, bI_B, Bool.not_true, Bool.not_false, bI_t, bI_f]
      by_cases hs : suB (K p) k = true
      · rw [hs] at c1
        refine kPair_ro (ld K F 0 p) hI (c1.trans (by simp (disch := omega) only [gInb_t, gLt_t, gLt_f, gEq_t, gEq_f, gIx_nat, gIx_id, gIf, cond_true, cond_false, gCi_some, gCv_some, gCr_some, gB01_0, gB01_1, gBi_01, gU_same, gU_off, gW_id, Int.toNat_natCast, Int.toNat_add, Int.toNat_mul, Int.reduceToNat, Nat.add_zero, Int.add_zero, bI_eq0, bI_B, Bool.not_true, Bool.not_false, bI_t, bI_f])) (c2.trans ?_)
        by_cases e0 : k = 0
        · simp (disch := omega) only [gInb_t, gLt_t, gLt_f, gEq_t, gEq_f, gIx_nat, gIx_id, gIf, cond_true, cond_false, gCi_some, gCv_some, gCr_some, gB01_0, gB01_1, gBi_01, gU_same, gU_off, gW_id, Int.toNat_natCast, Int.toNat_add, Int.toNat_mul, Int.reduceToNat, Nat.add_zero, Int.add_zero, bI_eq0, bI_B, Bool.not_true, Bool.not_false, bI_t, bI_f, e67]
        by_cases e1 : k = K p + 1
        · simp (disch := omega) only [gInb_t, gLt_t, gLt_f, gEq_t, gEq_f, gIx_nat, gIx_id, gIf, cond_true, cond_false, gCi_some, gCv_some, gCr_some, gB01_0, gB01_1, gBi_01, gU_same, gU_off, gW_id, Int.toNat_natCast, Int.toNat_add, Int.toNat_mul, Int.reduceToNat, Nat.add_zero, Int.add_zero, bI_eq0, bI_B, Bool.not_true, Bool.not_false, bI_t, bI_f, e67]
        by_cases e2 : k = 1 ∧ K p < 3
        · simp (disch := omega) only [gInb_t, gLt_t, gLt_f, gEq_t, gEq_f, gIx_nat, gIx_id, gIf, cond_true, cond_false, gCi_some, gCv_some, gCr_some, gB01_0, gB01_1, gBi_01, gU_same, gU_off, gW_id, Int.toNat_natCast, Int.toNat_add, Int.toNat_mul, Int.reduceToNat, Nat.add_zero, Int.add_zero, bI_eq0, bI_B, Bool.not_true, Bool.not_false, bI_t, bI_f, e67]
        by_cases e3 : k = 4 ∧ K p = 4
        · simp (disch := omega) only [gInb_t, gLt_t, gLt_f, gEq_t, gEq_f, gIx_nat, gIx_id, gIf, cond_true, cond_false, gCi_some, gCv_some, gCr_some, gB01_0, gB01_1, gBi_01, gU_same, gU_off, gW_id, Int.toNat_natCast, Int.toNat_add, Int.toNat_mul, Int.reduceToNat, Nat.add_zero, Int.add_zero, bI_eq0, bI_B, Bool.not_true, Bool.not_false, bI_t, bI_f, e57]
        · rw [suB_f e0 e1 e2 e3] at hs
          cases hs
      · have hs' : suB (K p) k = false := by
          cases hq : suB (K p) k with
          | true => exact absurd hq hs
          | false => rfl
        rw [hs'] at c1
        have f0 : k ≠ 0 := fun q => by subst q; simp [suB] at hs'
        have f1 : k ≠ K p + 1 := fun q => by subst q; simp [suB] at hs'
        have f2 : ¬ (k = 1 ∧ K p < 3) := fun q => by obtain ⟨rfl, q2⟩ := q; simp [suB, q2] at hs'
        have f3 : ¬ (k = 4 ∧ K p = 4) := fun q => by obtain ⟨rfl, q2⟩ := q; simp [suB, q2] at hs'
        refine kPair_ro (-4) hI (c1.trans (by simp (disch := omega) only [gInb_t, gLt_t, gLt_f, gEq_t, gEq_f, gIx_nat, gIx_id, gIf, cond_true, cond_false, gCi_some, gCv_some, gCr_some, gB01_0, gB01_1, gBi_01, gU_same, gU_off, gW_id, Int.toNat_natCast, Int.toNat_add, Int.toNat_mul, Int.reduceToNat, Nat.add_zero, Int.add_zero, bI_eq0, bI_B, Bool.not_true, Bool.not_false, bI_t, bI_f])) (c2.trans ?_)
        have g1 := e57n N (k : Int) ((K p : Nat) : Int) (by omega) (by omega) hb (rng_c (by omega) (by omega))
        by_cases e1 : k = 1
        · simp (disch := omega) only [gInb_t, gLt_t, gLt_f, gEq_t, gEq_f, gIx_nat, gIx_id, gIf, cond_true, cond_false, gCi_some, gCv_some, gCr_some, gB01_0, gB01_1, gBi_01, gU_same, gU_off, gW_id, Int.toNat_natCast, Int.toNat_add, Int.toNat_mul, Int.reduceToNat, Nat.add_zero, Int.add_zero, bI_eq0, bI_B, Bool.not_true, Bool.not_false, bI_t, bI_f, g1]
        · simp (disch := omega) only [gInb_t, gLt_t, gLt_f, gEq_t, gEq_f, gIx_nat, gIx_id, gIf, cond_true, cond_false, gCi_some, gCv_some, gCr_some, gB01_0, gB01_1, gBi_01, gU_same, gU_off, gW_id, Int.toNat_natCast, Int.toNat_add, Int.toNat_mul, Int.reduceToNat, Nat.add_zero, Int.add_zero, bI_eq0, bI_B, Bool.not_true, Bool.not_false, bI_t, bI_f, g1]
    · rw [decide_eq_false h0] at c1 c2
      refine kPair_ro (-3) hI (c1.trans ?_) (c2.trans ?_)
      · simp (disch := omega) only [gInb_t, gLt_t, gLt_f, gEq_t, gEq_f, gIx_nat, gIx_id, gIf, cond_true, cond_false, gCi_some, gCv_some, gCr_some, gB01_0, gB01_1, gBi_01, gU_same, gU_off, gW_id, Int.toNat_natCast, Int.toNat_add, Int.toNat_mul, Int.reduceToNat, Nat.add_zero, Int.add_zero, bI_eq0, bI_B, Bool.not_true, Bool.not_false, bI_t, bI_f]
      · simp (disch := omega) only [gInb_t, gLt_t, gLt_f, gEq_t, gEq_f, gIx_nat, gIx_id, gIf, cond_true, cond_false, gCi_some, gCv_some, gCr_some, gB01_0, gB01_1, gBi_01, gU_same, gU_off, gW_id, Int.toNat_natCast, Int.toNat_add, Int.toNat_mul, Int.reduceToNat, Nat.add_zero, Int.add_zero, bI_eq0, bI_B, Bool.not_true, Bool.not_false, bI_t, bI_f]
  · refine kPair_ro (-2) hI ?_ ?_
    · rw [q_X9_as, s_xhas _ _ n _ _ hn h6 ha, decide_eq_false hp]; simp (disch := omega) only [gInb_t, gLt_t, gLt_f, gEq_t, gEq_f, gIx_nat, gIx_id, gIf, cond_true, cond_false, gCi_some, gCv_some, gCr_some, gB01_0, gB01_1, gBi_01, gU_same, gU_off, gW_id, Int.toNat_natCast, Int.toNat_add, Int.toNat_mul, Int.reduceToNat, Nat.add_zero, Int.add_zero, bI_eq0, bI_B, Bool.not_true, Bool.not_false, bI_t, bI_f]
    · rw [q_X10_as, s_mhas _ _ n _ _ hn m29 ha, decide_eq_false hp]; simp (disch := omega) only [gInb_t, gLt_t, gLt_f, gEq_t, gEq_f, gIx_nat, gIx_id, gIf, cond_true, cond_false, gCi_some, gCv_some, gCr_some, gB01_0, gB01_1, gBi_01, gU_same, gU_off, gW_id, Int.toNat_natCast, Int.toNat_add, Int.toNat_mul, Int.reduceToNat, Nat.add_zero, Int.add_zero, bI_eq0, bI_B, Bool.not_true, Bool.not_false, bI_t, bI_f]
