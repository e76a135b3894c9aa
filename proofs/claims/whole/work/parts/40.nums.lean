-- 40: numbers in 32 bits
theorem gW_id {x : Int} (h1 : -2147483648 ≤ x) (h2 : x < 2147483648) : gW x = x := Int32.toInt_ofInt_of_le h1 h2
theorem gW_lo (x : Int) : -2147483648 ≤ gW x := Int32.le_toInt (gI x)
theorem gW_hi (x : Int) : gW x < 2147483648 := Int32.toInt_lt (gI x)
theorem gIx_id {x : Int} (h1 : 0 ≤ x) (h2 : x < 2147483648) : gIx x = x.toNat := by
  unfold gIx
  rw [gW_id (by omega) h2]
theorem gIx_nat {n : Nat} (h : n < 2147483648) : gIx (n : Int) = n := by
  rw [gIx_id (by omega) (by omega)]
  rfl
theorem gLt_id {x y : Int} (h1 : -2147483648 ≤ x) (h2 : x < 2147483648) (h3 : -2147483648 ≤ y) (h4 : y < 2147483648) : gLt x y = decide (x < y) := by
  rw [gLt_eq, gW_id h1 h2, gW_id h3 h4]
theorem gEq_id {x y : Int} (h1 : -2147483648 ≤ x) (h2 : x < 2147483648) (h3 : -2147483648 ≤ y) (h4 : y < 2147483648) : gEq x y = decide (x = y) := by
  rw [gEq_eq, gW_id h1 h2, gW_id h3 h4]
theorem gInb_id {x : Int} {n : Nat} (h1 : -2147483648 ≤ x) (h2 : x < 2147483648) : gInb x n = decide (0 ≤ x ∧ x < (n : Int)) := by
  rw [gInb_eq, gW_id h1 h2]
theorem gInb_t {x : Int} {n : Nat} (h1 : 0 ≤ x) (h2 : x < (n : Int)) (h3 : x < 2147483648) : gInb x n = true := by
  rw [gInb_id (by omega) h3]
  exact decide_eq_true ⟨h1, h2⟩
theorem gIf_t {α : Type} (x : Option α) : gIf true x = x := rfl
theorem gB01_0 : gB01 0 = true := by unfold gB01; rw [gEq_eq, gEq_eq]; decide
theorem gB01_1 : gB01 1 = true := by unfold gB01; rw [gEq_eq, gEq_eq]; decide
theorem gEq_refl (x : Int) : gEq x x = true := by rw [gEq_eq]; exact decide_eq_true rfl
theorem gJ_id {x : Int} (h1 : -2147483648 ≤ x) (h2 : x < 4294967296) : (gJ x).toInt = x := Int64.toInt_ofInt_of_le (by omega) (by omega)
theorem gLc_lt {x y : Int} (h1 : -2147483648 ≤ x) (h2 : x < 4294967296) (h3 : -2147483648 ≤ y) (h4 : y < 4294967296) : gLt (gLc x y) 0 = decide (x < y) := by
  have key : gLt (gLc x y) 0 = true ↔ x < y := by
    rw [gLt_iff]
    unfold gLc
    rw [gI_back]
    have e := lg_cmp_ge (gJ x) (gJ y)
    rw [Int64.le_iff_toInt_le, gJ_id h1 h2, gJ_id h3 h4] at e
    rw [show gI 0 = (0 : Int32) from rfl, ← Int32.not_le, e]
    omega
  cases hb : gLt (gLc x y) 0 with
  | true => exact (decide_eq_true (key.mp hb)).symm
  | false => exact (decide_eq_false (fun q => by rw [key.mpr q] at hb; cases hb)).symm
theorem gLc_gt {x y : Int} (h1 : -2147483648 ≤ x) (h2 : x < 4294967296) (h3 : -2147483648 ≤ y) (h4 : y < 4294967296) : gLt 0 (gLc x y) = decide (y < x) := by
  have key : gLt 0 (gLc x y) = true ↔ y < x := by
    rw [gLt_iff]
    unfold gLc
    rw [gI_back]
    have e := lg_cmp_gt (gJ x) (gJ y)
    rw [Int64.lt_iff_toInt_lt, gJ_id h1 h2, gJ_id h3 h4] at e
    exact e
  cases hb : gLt 0 (gLc x y) with
  | true => exact (decide_eq_true (key.mp hb)).symm
  | false => exact (decide_eq_false (fun q => by rw [key.mpr q] at hb; cases hb)).symm
/-- a truth as a number -/
def gBi (p : Prop) [Decidable p] : Int := if p then 1 else 0
theorem gBi_01 (p : Prop) [Decidable p] : gB01 (gBi p) = true := by
  unfold gBi
  split
  · exact gB01_1
  · exact gB01_0
theorem gBi_eq0 (p : Prop) [Decidable p] : gEq (gBi p) 0 = decide (¬ p) := by
  unfold gBi
  split
  · rename_i h
    rw [gEq_eq]
    simp [h]
    decide
  · rename_i h
    rw [gEq_eq]
    simp [h]
