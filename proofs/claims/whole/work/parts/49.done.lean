-- 49: who is there; what is remembered; lents
theorem s_has (N d n : Nat) (a : Int) (M : gM) (hn : n ≤ 7) (h6 : M 6 0 = (n : Int)) (ha : -2147483648 ≤ a ∧ a < 2147483648) : gEv N (d + 1) 24 [.inr (.inr 7), .inl a] M = some (M, some (.inl (gBi (0 ≤ a ∧ a < (n : Int))))) := by
  rw [q_X5_has, h6]
  by_cases h1 : a < 0
  · simp (disch := omega) only [gInb_t, gLt_t, gLt_f, gEq_t, gEq_f, gIx_nat, gIx_id, gIf, cond_true, cond_false, gCi_some, gCv_some, gCr_some, gB01_0, gB01_1, gBi_01, gU_same, gU_off, gW_id, Int.toNat_natCast, Int.toNat_add, Int.toNat_mul, Int.reduceToNat, Nat.add_zero, Int.add_zero]
    simp [gBi, show ¬ (0 ≤ a ∧ a < (n : Int)) by omega]
  · by_cases h2 : a < (n : Int)
    · simp (disch := omega) only [gInb_t, gLt_t, gLt_f, gEq_t, gEq_f, gIx_nat, gIx_id, gIf, cond_true, cond_false, gCi_some, gCv_some, gCr_some, gB01_0, gB01_1, gBi_01, gU_same, gU_off, gW_id, Int.toNat_natCast, Int.toNat_add, Int.toNat_mul, Int.reduceToNat, Nat.add_zero, Int.add_zero]
      simp [gBi, show (0 ≤ a ∧ a < (n : Int)) by omega]
    · simp (disch := omega) only [gInb_t, gLt_t, gLt_f, gEq_t, gEq_f, gIx_nat, gIx_id, gIf, cond_true, cond_false, gCi_some, gCv_some, gCr_some, gB01_0, gB01_1, gBi_01, gU_same, gU_off, gW_id, Int.toNat_natCast, Int.toNat_add, Int.toNat_mul, Int.reduceToNat, Nat.add_zero, Int.add_zero]
      simp [gBi, show ¬ (0 ≤ a ∧ a < (n : Int)) by omega]
theorem s_isPerson (N d n : Nat) (a : Int) (M : gM) (hn : n ≤ 7) (h6 : M 82 29 = (n : Int)) (ha : -2147483648 ≤ a ∧ a < 2147483648) : gEv N (d + 2) 116 [.inr (.inr 82), .inl a] M = some (M, some (.inl (gBi (0 ≤ a ∧ a < (n : Int))))) := by
  rw [q_X10_isPerson, gIx_e (x := 29) (n := 29) rfl (by omega), h6, gW_id ha.1 ha.2, gW_id (by omega) (by omega), s_in _ _ _ _ _ _ ha (by omega) (by omega)]
  simp (disch := omega) only [gInb_t, gLt_t, gLt_f, gEq_t, gEq_f, gIx_nat, gIx_id, gIf, cond_true, cond_false, gCi_some, gCv_some, gCr_some, gB01_0, gB01_1, gBi_01, gU_same, gU_off, gW_id, Int.toNat_natCast, Int.toNat_add, Int.toNat_mul, Int.reduceToNat, Nat.add_zero, Int.add_zero]
  have : (((0 : Nat) : Int) ≤ a ∧ a ≤ (n : Int) - 1) ↔ (0 ≤ a ∧ a < (n : Int)) := by omega
  simp only [gBi, this]
theorem gBi_t {p : Prop} [Decidable p] (h : p) : gBi p = 1 := by simp [gBi, h]
theorem gBi_f {p : Prop} [Decidable p] (h : ¬ p) : gBi p = 0 := by simp [gBi, h]
theorem s_areTwoX (N d n : Nat) (a b : Int) (M : gM) (hn : n ≤ 7) (h6 : M 6 0 = (n : Int)) (ha : -2147483648 ≤ a ∧ a < 2147483648) (hb : -2147483648 ≤ b ∧ b < 2147483648) : gEv N (d + 2) 89 [.inr (.inr 1), .inl a, .inl b] M = some (M, some (.inl (gBi ((0 ≤ a ∧ a < (n : Int)) ∧ (0 ≤ b ∧ b < (n : Int)) ∧ a ≠ b)))) := by
  rw [q_X9_areTwo, s_has _ _ n _ _ hn h6 ha, gCi_some, s_has _ _ n _ _ hn h6 hb, gCi_some]
  by_cases h1 : 0 ≤ a ∧ a < (n : Int)
  · by_cases h2 : 0 ≤ b ∧ b < (n : Int)
    · by_cases h3 : a = b
      · rw [gBi_t h1, gBi_t h2, gBi_f (by simp [h3])]
        simp (disch := omega) only [gInb_t, gLt_t, gLt_f, gEq_t, gEq_f, gIx_nat, gIx_id, gIf, cond_true, cond_false, gCi_some, gCv_some, gCr_some, gB01_0, gB01_1, gBi_01, gU_same, gU_off, gW_id, Int.toNat_natCast, Int.toNat_add, Int.toNat_mul, Int.reduceToNat, Nat.add_zero, Int.add_zero]
      · rw [gBi_t h1, gBi_t h2, gBi_t ⟨h1, h2, h3⟩]
        simp (disch := omega) only [gInb_t, gLt_t, gLt_f, gEq_t, gEq_f, gIx_nat, gIx_id, gIf, cond_true, cond_false, gCi_some, gCv_some, gCr_some, gB01_0, gB01_1, gBi_01, gU_same, gU_off, gW_id, Int.toNat_natCast, Int.toNat_add, Int.toNat_mul, Int.reduceToNat, Nat.add_zero, Int.add_zero]
    · rw [gBi_t h1, gBi_f h2, gBi_f (fun q => h2 q.2.1)]
      simp (disch := omega) only [gInb_t, gLt_t, gLt_f, gEq_t, gEq_f, gIx_nat, gIx_id, gIf, cond_true, cond_false, gCi_some, gCv_some, gCr_some, gB01_0, gB01_1, gBi_01, gU_same, gU_off, gW_id, Int.toNat_natCast, Int.toNat_add, Int.toNat_mul, Int.reduceToNat, Nat.add_zero, Int.add_zero]
  · rw [gBi_f h1, gBi_f (p := (0 ≤ a ∧ a < (n : Int)) ∧ (0 ≤ b ∧ b < (n : Int)) ∧ a ≠ b) (fun q => h1 q.1)]
    simp (disch := omega) only [gInb_t, gLt_t, gLt_f, gEq_t, gEq_f, gIx_nat, gIx_id, gIf, cond_true, cond_false, gCi_some, gCv_some, gCr_some, gB01_0, gB01_1, gBi_01, gU_same, gU_off, gW_id, Int.toNat_natCast, Int.toNat_add, Int.toNat_mul, Int.reduceToNat, Nat.add_zero, Int.add_zero]
theorem s_areTwoM (N d n : Nat) (a b : Int) (M : gM) (hn : n ≤ 7) (h6 : M 82 29 = (n : Int)) (ha : -2147483648 ≤ a ∧ a < 2147483648) (hb : -2147483648 ≤ b ∧ b < 2147483648) : gEv N (d + 3) 130 [.inr (.inr 82), .inl a, .inl b] M = some (M, some (.inl (gBi ((0 ≤ a ∧ a < (n : Int)) ∧ (0 ≤ b ∧ b < (n : Int)) ∧ a ≠ b)))) := by
  rw [q_X10_areTwo, s_isPerson _ _ n _ _ hn h6 ha, gCi_some, s_isPerson _ _ n _ _ hn h6 hb, gCi_some]
  by_cases h1 : 0 ≤ a ∧ a < (n : Int)
  · by_cases h2 : 0 ≤ b ∧ b < (n : Int)
    · by_cases h3 : a = b
      · rw [gBi_t h1, gBi_t h2, gBi_f (by simp [h3])]
        simp (disch := omega) only [gInb_t, gLt_t, gLt_f, gEq_t, gEq_f, gIx_nat, gIx_id, gIf, cond_true, cond_false, gCi_some, gCv_some, gCr_some, gB01_0, gB01_1, gBi_01, gU_same, gU_off, gW_id, Int.toNat_natCast, Int.toNat_add, Int.toNat_mul, Int.reduceToNat, Nat.add_zero, Int.add_zero]
      · rw [gBi_t h1, gBi_t h2, gBi_t ⟨h1, h2, h3⟩]
        simp (disch := omega) only [gInb_t, gLt_t, gLt_f, gEq_t, gEq_f, gIx_nat, gIx_id, gIf, cond_true, cond_false, gCi_some, gCv_some, gCr_some, gB01_0, gB01_1, gBi_01, gU_same, gU_off, gW_id, Int.toNat_natCast, Int.toNat_add, Int.toNat_mul, Int.reduceToNat, Nat.add_zero, Int.add_zero]
    · rw [gBi_t h1, gBi_f h2, gBi_f (fun q => h2 q.2.1)]
      simp (disch := omega) only [gInb_t, gLt_t, gLt_f, gEq_t, gEq_f, gIx_nat, gIx_id, gIf, cond_true, cond_false, gCi_some, gCv_some, gCr_some, gB01_0, gB01_1, gBi_01, gU_same, gU_off, gW_id, Int.toNat_natCast, Int.toNat_add, Int.toNat_mul, Int.reduceToNat, Nat.add_zero, Int.add_zero]
  · rw [gBi_f h1, gBi_f (p := (0 ≤ a ∧ a < (n : Int)) ∧ (0 ≤ b ∧ b < (n : Int)) ∧ a ≠ b) (fun q => h1 q.1)]
    simp (disch := omega) only [gInb_t, gLt_t, gLt_f, gEq_t, gEq_f, gIx_nat, gIx_id, gIf, cond_true, cond_false, gCi_some, gCv_some, gCr_some, gB01_0, gB01_1, gBi_01, gU_same, gU_off, gW_id, Int.toNat_natCast, Int.toNat_add, Int.toNat_mul, Int.reduceToNat, Nat.add_zero, Int.add_zero]
theorem s_isDrawerX (N d : Nat) (a : Int) (M : gM) (ha : -2147483648 ≤ a ∧ a < 2147483648) : gEv N (d + 2) 92 [.inl a] M = some (M, some (.inl (gBi (0 ≤ a ∧ a ≤ 3)))) := by
  rw [q_X9_isDrawer, s_within _ _ _ _ _ _ ha (by omega) (by omega)]
  simp (disch := omega) only [gInb_t, gLt_t, gLt_f, gEq_t, gEq_f, gIx_nat, gIx_id, gIf, cond_true, cond_false, gCi_some, gCv_some, gCr_some, gB01_0, gB01_1, gBi_01, gU_same, gU_off, gW_id, Int.toNat_natCast, Int.toNat_add, Int.toNat_mul, Int.reduceToNat, Nat.add_zero, Int.add_zero]
theorem s_isDrawerM (N d : Nat) (a : Int) (M : gM) (ha : -2147483648 ≤ a ∧ a < 2147483648) : gEv N (d + 2) 160 [.inl a] M = some (M, some (.inl (gBi (0 ≤ a ∧ a ≤ 3)))) := by
  rw [q_X10_isDrawer, gW_id ha.1 ha.2, s_in _ _ _ _ _ _ ha (by omega) (by omega)]
  simp (disch := omega) only [gInb_t, gLt_t, gLt_f, gEq_t, gEq_f, gIx_nat, gIx_id, gIf, cond_true, cond_false, gCi_some, gCv_some, gCr_some, gB01_0, gB01_1, gBi_01, gU_same, gU_off, gW_id, Int.toNat_natCast, Int.toNat_add, Int.toNat_mul, Int.reduceToNat, Nat.add_zero, Int.add_zero]
  rfl
/-- the store where Griefs g have become as Griefs h -/
def kBec (M : gM) (g h : Nat) : gM := gCp (gCp (gU M g 0 (M h 0)) (h + 1) 0 (g + 1) 0 7) (h + 2) 0 (g + 2) 0 21
theorem kPl8 : gPl 8 := Or.inl rfl
theorem kPlj {j : Nat} (h : j < 8) : gPl (22 + 3 * j) := by unfold gPl; omega
theorem s_bec (N d g h : Nat) (M : gM) (hg : gPl g) (hh : gPl h) : gEv N (d + 1) 7 [.inr (.inr (g + 1)), .inr (.inr (h + 1))] M = some (kBec M g h, none) := s_gbecome N d g h M hg hh
theorem kBec_fr {M : gM} {g h : Nat} : ∀ q i, ¬ (q = g ∨ q = g + 1 ∨ q = g + 2) → kBec M g h q i = M q i := s_gbecome_fr
theorem kBec_G {M : gM} {n g h : Nat} {t : Int} {F : Nat → List Int} (hg : gPl g) (hh : gPl h) (hn : g ≠ h) (h7 : n ≤ 7) (hf : ∀ p, p < n → kOkL (F p)) (hG : kG M n h t F) : kG (kBec M g h) n g t F := s_gbecome_G hg hh hn h7 hf hG
theorem s_remember (N d l u : Nat) (M : gM) (hl : l < 8) (hu : u ≤ 8) (h1 : M 20 1 = (l : Int)) (h0 : M 20 0 = (u : Int)) : gEv N (d + 2) 51 [.inr (.inr 21), .inr (.inr 9)] M = some (gU (kBec (gU M 20 1 (((l + 1) % 8 : Nat) : Int)) (22 + 3 * ((l + 1) % 8)) 8) 20 0 ((if u = 8 then 8 else u + 1 : Nat) : Int), none) := by
  have hr : gRem (M 20 1 + 1) 8 = (((l + 1) % 8 : Nat) : Int) := by
    rw [h1, gRem_id (by omega) (by omega) (by omega) (by omega)]
    omega
  rw [q_X8_remember, hr]
  have hl2 : (l + 1) % 8 < 8 := by omega
  generalize (l + 1) % 8 = j at hl2
  simp only [gU_same]
  have hmin : ∀ j, j < 8 → gMin (kBec (gU M 20 1 ((j : Nat) : Int)) (22 + 3 * j) 8 20 0 + 1) 8 = ((if u = 8 then 8 else u + 1 : Nat) : Int) := fun j hj => by
    rw [kBec_fr _ _ (by omega), gU_off _ _ (by omega), h0, gMin_id (by omega) (by omega) (by omega) (by omega)]
    by_cases h8 : u = 8
    · subst h8; simp
    · rw [if_neg (by omega), if_neg h8]; rfl
  rw [← hmin j hl2]
  match j, hl2 with
  | 0, _ => rw [s_bec N d 22 8 _ (kPlj (j := 0) (by omega)) kPl8]; simp (disch := omega) only [gInb_t, gLt_t, gLt_f, gEq_t, gEq_f, gIx_nat, gIx_id, gIf, cond_true, cond_false, gCi_some, gCv_some, gCr_some, gB01_0, gB01_1, gBi_01, gU_same, gU_off, gW_id, Int.toNat_natCast, Int.toNat_add, Int.toNat_mul, Int.reduceToNat, Nat.add_zero, Int.add_zero]
  | 1, _ => rw [s_bec N d 25 8 _ (kPlj (j := 1) (by omega)) kPl8]; simp (disch := omega) only [gInb_t, gLt_t, gLt_f, gEq_t, gEq_f, gIx_nat, gIx_id, gIf, cond_true, cond_false, gCi_some, gCv_some, gCr_some, gB01_0, gB01_1, gBi_01, gU_same, gU_off, gW_id, Int.toNat_natCast, Int.toNat_add, Int.toNat_mul, Int.reduceToNat, Nat.add_zero, Int.add_zero]
  | 2, _ => rw [s_bec N d 28 8 _ (kPlj (j := 2) (by omega)) kPl8]; simp (disch := omega) only [gInb_t, gLt_t, gLt_f, gEq_t, gEq_f, gIx_nat, gIx_id, gIf, cond_true, cond_false, gCi_some, gCv_some, gCr_some, gB01_0, gB01_1, gBi_01, gU_same, gU_off, gW_id, Int.toNat_natCast, Int.toNat_add, Int.toNat_mul, Int.reduceToNat, Nat.add_zero, Int.add_zero]
  | 3, _ => rw [s_bec N d 31 8 _ (kPlj (j := 3) (by omega)) kPl8]; simp (disch := omega) only [gInb_t, gLt_t, gLt_f, gEq_t, gEq_f, gIx_nat, gIx_id, gIf, cond_true, cond_false, gCi_some, gCv_some, gCr_some, gB01_0, gB01_1, gBi_01, gU_same, gU_off, gW_id, Int.toNat_natCast, Int.toNat_add, Int.toNat_mul, Int.reduceToNat, Nat.add_zero, Int.add_zero]
  | 4, _ => rw [s_bec N d 34 8 _ (kPlj (j := 4) (by omega)) kPl8]; simp (disch := omega) only [gInb_t, gLt_t, gLt_f, gEq_t, gEq_f, gIx_nat, gIx_id, gIf, cond_true, cond_false, gCi_some, gCv_some, gCr_some, gB01_0, gB01_1, gBi_01, gU_same, gU_off, gW_id, Int.toNat_natCast, Int.toNat_add, Int.toNat_mul, Int.reduceToNat, Nat.add_zero, Int.add_zero]
  | 5, _ => rw [s_bec N d 37 8 _ (kPlj (j := 5) (by omega)) kPl8]; simp (disch := omega) only [gInb_t, gLt_t, gLt_f, gEq_t, gEq_f, gIx_nat, gIx_id, gIf, cond_true, cond_false, gCi_some, gCv_some, gCr_some, gB01_0, gB01_1, gBi_01, gU_same, gU_off, gW_id, Int.toNat_natCast, Int.toNat_add, Int.toNat_mul, Int.reduceToNat, Nat.add_zero, Int.add_zero]
  | 6, _ => rw [s_bec N d 40 8 _ (kPlj (j := 6) (by omega)) kPl8]; simp (disch := omega) only [gInb_t, gLt_t, gLt_f, gEq_t, gEq_f, gIx_nat, gIx_id, gIf, cond_true, cond_false, gCi_some, gCv_some, gCr_some, gB01_0, gB01_1, gBi_01, gU_same, gU_off, gW_id, Int.toNat_natCast, Int.toNat_add, Int.toNat_mul, Int.reduceToNat, Nat.add_zero, Int.add_zero]
  | 7, _ => rw [s_bec N d 43 8 _ (kPlj (j := 7) (by omega)) kPl8]; simp (disch := omega) only [gInb_t, gLt_t, gLt_f, gEq_t, gEq_f, gIx_nat, gIx_id, gIf, cond_true, cond_false, gCi_some, gCv_some, gCr_some, gB01_0, gB01_1, gBi_01, gU_same, gU_off, gW_id, Int.toNat_natCast, Int.toNat_add, Int.toNat_mul, Int.reduceToNat, Nat.add_zero, Int.add_zero]
theorem s_restore (N d l u : Nat) (M : gM) (hl : l < 8) (hu : u ≤ 8) (hu1 : 1 ≤ u) (h1 : M 20 1 = (l : Int)) (h0 : M 20 0 = (u : Int)) : gEv N (d + 2) 52 [.inr (.inr 21), .inr (.inr 9)] M = some (gU (gU (kBec M 8 (22 + 3 * l)) 20 1 (((l + 7) % 8 : Nat) : Int)) 20 0 ((u - 1 : Nat) : Int), none) := by
  rw [q_X8_restore, h1]
  have hr : ∀ l', l' = l → gRem (kBec M 8 (22 + 3 * l') 20 1 + 8 - 1) 8 = (((l + 7) % 8 : Nat) : Int) := fun l' e => by
    rw [e, kBec_fr _ _ (by omega), h1, gRem_id (by omega) (by omega) (by omega) (by omega)]
    omega
  have hm : ∀ l' x, l' = l → gMax (gU (kBec M 8 (22 + 3 * l')) 20 1 x 20 0 - 1) 0 = ((u - 1 : Nat) : Int) := fun l' x e => by
    rw [e, gU_off _ _ (by omega), kBec_fr _ _ (by omega), h0, gMax_id (by omega) (by omega) (by omega) (by omega)]
    rw [if_neg (by omega)]; omega
  match l, hl with
  | 0, _ => rw [s_bec N d 8 22 _ kPl8 (kPlj (j := 0) (by omega)), gCv_some, hr 0 rfl, hm 0 _ rfl]; simp (disch := omega) only [gInb_t, gLt_t, gLt_f, gEq_t, gEq_f, gIx_nat, gIx_id, gIf, cond_true, cond_false, gCi_some, gCv_some, gCr_some, gB01_0, gB01_1, gBi_01, gU_same, gU_off, gW_id, Int.toNat_natCast, Int.toNat_add, Int.toNat_mul, Int.reduceToNat, Nat.add_zero, Int.add_zero]
  | 1, _ => rw [s_bec N d 8 25 _ kPl8 (kPlj (j := 1) (by omega)), gCv_some, hr 1 rfl, hm 1 _ rfl]; simp (disch := omega) only [gInb_t, gLt_t, gLt_f, gEq_t, gEq_f, gIx_nat, gIx_id, gIf, cond_true, cond_false, gCi_some, gCv_some, gCr_some, gB01_0, gB01_1, gBi_01, gU_same, gU_off, gW_id, Int.toNat_natCast, Int.toNat_add, Int.toNat_mul, Int.reduceToNat, Nat.add_zero, Int.add_zero]
  | 2, _ => rw [s_bec N d 8 28 _ kPl8 (kPlj (j := 2) (by omega)), gCv_some, hr 2 rfl, hm 2 _ rfl]; simp (disch := omega) only [gInb_t, gLt_t, gLt_f, gEq_t, gEq_f, gIx_nat, gIx_id, gIf, cond_true, cond_false, gCi_some, gCv_some, gCr_some, gB01_0, gB01_1, gBi_01, gU_same, gU_off, gW_id, Int.toNat_natCast, Int.toNat_add, Int.toNat_mul, Int.reduceToNat, Nat.add_zero, Int.add_zero]
  | 3, _ => rw [s_bec N d 8 31 _ kPl8 (kPlj (j := 3) (by omega)), gCv_some, hr 3 rfl, hm 3 _ rfl]; simp (disch := omega) only [gInb_t, gLt_t, gLt_f, gEq_t, gEq_f, gIx_nat, gIx_id, gIf, cond_true, cond_false, gCi_some, gCv_some, gCr_some, gB01_0, gB01_1, gBi_01, gU_same, gU_off, gW_id, Int.toNat_natCast, Int.toNat_add, Int.toNat_mul, Int.reduceToNat, Nat.add_zero, Int.add_zero]
  | 4, _ => rw [s_bec N d 8 34 _ kPl8 (kPlj (j := 4) (by omega)), gCv_some, hr 4 rfl, hm 4 _ rfl]; simp (disch := omega) only [gInb_t, gLt_t, gLt_f, gEq_t, gEq_f, gIx_nat, gIx_id, gIf, cond_true, cond_false, gCi_some, gCv_some, gCr_some, gB01_0, gB01_1, gBi_01, gU_same, gU_off, gW_id, Int.toNat_natCast, Int.toNat_add, Int.toNat_mul, Int.reduceToNat, Nat.add_zero, Int.add_zero]
  | 5, _ => rw [s_bec N d 8 37 _ kPl8 (kPlj (j := 5) (by omega)), gCv_some, hr 5 rfl, hm 5 _ rfl]; simp (disch := omega) only [gInb_t, gLt_t, gLt_f, gEq_t, gEq_f, gIx_nat, gIx_id, gIf, cond_true, cond_false, gCi_some, gCv_some, gCr_some, gB01_0, gB01_1, gBi_01, gU_same, gU_off, gW_id, Int.toNat_natCast, Int.toNat_add, Int.toNat_mul, Int.reduceToNat, Nat.add_zero, Int.add_zero]
  | 6, _ => rw [s_bec N d 8 40 _ kPl8 (kPlj (j := 6) (by omega)), gCv_some, hr 6 rfl, hm 6 _ rfl]; simp (disch := omega) only [gInb_t, gLt_t, gLt_f, gEq_t, gEq_f, gIx_nat, gIx_id, gIf, cond_true, cond_false, gCi_some, gCv_some, gCr_some, gB01_0, gB01_1, gBi_01, gU_same, gU_off, gW_id, Int.toNat_natCast, Int.toNat_add, Int.toNat_mul, Int.reduceToNat, Nat.add_zero, Int.add_zero]
  | 7, _ => rw [s_bec N d 8 43 _ kPl8 (kPlj (j := 7) (by omega)), gCv_some, hr 7 rfl, hm 7 _ rfl]; simp (disch := omega) only [gInb_t, gLt_t, gLt_f, gEq_t, gEq_f, gIx_nat, gIx_id, gIf, cond_true, cond_false, gCi_some, gCv_some, gCr_some, gB01_0, gB01_1, gBi_01, gU_same, gU_off, gW_id, Int.toNat_natCast, Int.toNat_add, Int.toNat_mul, Int.reduceToNat, Nat.add_zero, Int.add_zero]
