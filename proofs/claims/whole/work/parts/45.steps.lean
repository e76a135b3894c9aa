-- 45: divisions, steps
theorem gDiv_id {x y : Int} (h1 : 0 ≤ x) (h2 : x < 2147483648) (h3 : 0 < y) (h4 : y < 2147483648) : gDiv x y = x / y := by
  unfold gDiv
  have hx : (gI x).toInt = x := gW_id (by omega) h2
  have hy : (gI y).toInt = y := gW_id (by omega) h4
  rw [Int32.toInt_div_of_ne_right _ _ (fun q => by
    have := congrArg Int32.toInt q
    rw [hy] at this
    have e : (-1 : Int32).toInt = -1 := rfl
    omega), hx, hy, Int.tdiv_eq_ediv_of_nonneg h1]
theorem gRem_id {x y : Int} (h1 : 0 ≤ x) (h2 : x < 2147483648) (h3 : 0 < y) (h4 : y < 2147483648) : gRem x y = x % y := by
  unfold gRem
  rw [rem_toInt, show (gI x).toInt = x from gW_id (by omega) h2, show (gI y).toInt = y from gW_id (by omega) h4, Int.tmod_eq_emod_of_nonneg h1]
theorem gMin_id {x y : Int} (h1 : -2147483648 ≤ x) (h2 : x < 2147483648) (h3 : -2147483648 ≤ y) (h4 : y < 2147483648) : gMin x y = if y < x then y else x := by
  unfold gMin
  have e : gI y < gI x ↔ y < x := by
    rw [← gLt_iff, gLt_id h3 h4 h1 h2, decide_eq_true_iff]
  by_cases hc : y < x
  · rw [if_pos (e.mpr hc), if_pos hc]
    exact gW_id h3 h4
  · rw [if_neg (fun q => hc (e.mp q)), if_neg hc]
    exact gW_id h1 h2
def stepK (l : Int) : Int := if 9 < l / 10 then 9 else l / 10
theorem s_stepX (N d : Nat) (a : Int) (M : gM) (h0 : 0 ≤ a) (h1 : a < 2147483648) : gEv N (d + 1) 95 [.inl a] M = some (M, some (.inl (stepK a))) := by
  rw [q_X9_stepOf, gEq_id (by omega) (by omega) (by omega) (by omega), gDiv_id h0 h1 (by omega) (by omega), gMin_id (by omega) (by omega) (by omega) (by omega)]
  simp [stepK]
theorem s_stepM (N d : Nat) (a : Int) (M : gM) (h0 : 0 ≤ a) (h1 : a < 2147483648) : gEv N (d + 1) 122 [.inl a] M = some (M, some (.inl (stepK a))) := by
  rw [q_X10_stepOf, gEq_id (by omega) (by omega) (by omega) (by omega), gDiv_id h0 h1 (by omega) (by omega), gLt_id (by omega) (by omega) (by omega) (by omega)]
  by_cases hc : 9 < a / 10
  · simp [stepK, hc]
  · simp [stepK, hc]
