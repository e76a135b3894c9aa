-- 42: griefs and loads
theorem gIx_e {x : Int} {n : Nat} (h : x = (n : Int)) (hn : n < 2147483648) : gIx x = n := by
  subst h
  exact gIx_nat hn
theorem gInb_e {x : Int} {k n : Nat} (h : x = (k : Int)) (hk : k < n) (hn : n < 2147483648) : gInb x n = true := by
  subst h
  exact gInb_t (by omega) (by omega) (by omega)
theorem gLt_e {x y : Int} {a b : Nat} (h1 : x = (a : Int)) (h2 : y = (b : Int)) (ha : a < 2147483648) (hb : b < 2147483648) : gLt x y = decide (a < b) := by
  subst h1; subst h2
  rw [gLt_id (by omega) (by omega) (by omega) (by omega)]
  congr 1
  exact propext Int.ofNat_lt
/-- the sum, the greatest of f from k on, r of them -/
def hSum (f : Nat → Int) (k : Nat) : Nat → Int
  | 0 => 0
  | r + 1 => f k + hSum f (k + 1) r
def hMax (f : Nat → Int) (k : Nat) (m : Int) : Nat → Int
  | 0 => m
  | r + 1 => hMax f (k + 1) (if m < f k then f k else m) r
theorem l_sumOf (C : gCl) (b p m : Nat) (M : gM) (hb : b ≤ 414) (hp : p < 7) (hm : M 82 (b + 21 + p) = (m : Int)) (hm3 : m ≤ 3) : ∀ (r k n : Nat) (acc : Int), k + r = m → r < n → L_X10_sumOf_5 C n (b : Int) (p : Int) acc (k : Int) M = some (M, some (.inl (acc + hSum (fun j => M 82 (b + 3 * p + j)) k r))) := by
  intro r
  induction r with
  | zero =>
    intro k n acc hk hn
    obtain ⟨n, rfl⟩ : ∃ z, n = z + 1 := ⟨n - 1, by omega⟩
    rw [q_X10_sumOf_5, gInb_e (k := b + 21 + p) (by omega) (by omega) (by omega), gIx_e (n := b + 21 + p) (by omega) (by omega), hm, gLt_e (a := k) (b := m) rfl rfl (by omega) (by omega), decide_eq_false (show ¬ k < m by omega)]
    simp [gIf, hSum]
  | succ r ih =>
    intro k n acc hk hn
    obtain ⟨n, rfl⟩ : ∃ z, n = z + 1 := ⟨n - 1, by omega⟩
    rw [q_X10_sumOf_5, gInb_e (k := b + 21 + p) (by omega) (by omega) (by omega), gIx_e (n := b + 21 + p) (by omega) (by omega), hm, gLt_e (a := k) (b := m) rfl rfl (by omega) (by omega), decide_eq_true (show k < m by omega), gInb_e (x := (((b : Int) + 0) + (3 * (p : Int))) + (k : Int)) (k := b + 3 * p + k) (by omega) (by omega) (by omega), gIx_e (x := (((b : Int) + 0) + (3 * (p : Int))) + (k : Int)) (n := b + 3 * p + k) (by omega) (by omega)]
    have h := ih (k + 1) n (acc + M 82 (b + 3 * p + k)) (by omega) (by omega)
    simp only [gIf, cond_true]
    rw [show (k : Int) + 1 = ((k + 1 : Nat) : Int) by omega, h]
    simp only [hSum]
    rw [Int.add_assoc]
theorem s_sumOf (N d : Nat) (b p m : Nat) (M : gM) (hN : 4 ≤ N) (hb : b ≤ 414) (hp : p < 7) (hm : M 82 (b + 21 + p) = (m : Int)) (hm3 : m ≤ 3) : gEv N (d + 1) 117 [.inr (.inr 82), .inl (b : Int), .inl (p : Int)] M = some (M, some (.inl (hSum (fun j => M 82 (b + 3 * p + j)) 0 m))) := by
  rw [q_X10_sumOf, show (0 : Int) = ((0 : Nat) : Int) from rfl, l_sumOf _ b p m M hb hp hm hm3 m 0 N _ (by omega) (by omega)]
  simp
theorem l_greatestOf (C : gCl) (b p m : Nat) (M : gM) (hb : b ≤ 414) (hp : p < 7) (hm : M 82 (b + 21 + p) = (m : Int)) (hm3 : m ≤ 3) (hw : ∀ j, j < m → 0 ≤ M 82 (b + 3 * p + j) ∧ M 82 (b + 3 * p + j) < 2147483648) : ∀ (r k n : Nat) (acc : Int), k + r = m → r < n → 0 ≤ acc → acc < 2147483648 → L_X10_greatestOf_5 C n (b : Int) (p : Int) acc (k : Int) M = some (M, some (.inl (hMax (fun j => M 82 (b + 3 * p + j)) k acc r))) := by
  intro r
  induction r with
  | zero =>
    intro k n acc hk hn h0 h1
    obtain ⟨n, rfl⟩ : ∃ z, n = z + 1 := ⟨n - 1, by omega⟩
    rw [q_X10_greatestOf_5, gInb_e (k := b + 21 + p) (by omega) (by omega) (by omega), gIx_e (n := b + 21 + p) (by omega) (by omega), hm, gLt_e (a := k) (b := m) rfl rfl (by omega) (by omega), decide_eq_false (show ¬ k < m by omega)]
    simp [gIf, hMax]
  | succ r ih =>
    intro k n acc hk hn h0 h1
    obtain ⟨n, rfl⟩ : ∃ z, n = z + 1 := ⟨n - 1, by omega⟩
    have hwk := hw k (by omega)
    rw [q_X10_greatestOf_5, gInb_e (k := b + 21 + p) (by omega) (by omega) (by omega), gIx_e (n := b + 21 + p) (by omega) (by omega), hm, gLt_e (a := k) (b := m) rfl rfl (by omega) (by omega), decide_eq_true (show k < m by omega), gInb_e (x := (((b : Int) + 0) + (3 * (p : Int))) + (k : Int)) (k := b + 3 * p + k) (by omega) (by omega) (by omega), gIx_e (x := (((b : Int) + 0) + (3 * (p : Int))) + (k : Int)) (n := b + 3 * p + k) (by omega) (by omega), gLt_id (by omega) (by omega) (by omega) (by omega)]
    simp only [gIf, cond_true]
    rw [show (k : Int) + 1 = ((k + 1 : Nat) : Int) by omega]
    by_cases hc : acc < M 82 (b + 3 * p + k)
    · rw [decide_eq_true hc]
      simp only [cond_true]
      rw [ih (k + 1) n _ (by omega) (by omega) hwk.1 hwk.2]
      simp only [hMax, if_pos hc]
    · rw [decide_eq_false hc]
      simp only [cond_false]
      rw [ih (k + 1) n _ (by omega) (by omega) h0 h1]
      simp only [hMax, if_neg hc]
theorem s_greatestOf (N d : Nat) (b p m : Nat) (M : gM) (hN : 4 ≤ N) (hb : b ≤ 414) (hp : p < 7) (hm : M 82 (b + 21 + p) = (m : Int)) (hm3 : m ≤ 3) (hw : ∀ j, j < m → 0 ≤ M 82 (b + 3 * p + j) ∧ M 82 (b + 3 * p + j) < 2147483648) : gEv N (d + 1) 118 [.inr (.inr 82), .inl (b : Int), .inl (p : Int)] M = some (M, some (.inl (hMax (fun j => M 82 (b + 3 * p + j)) 0 0 m))) := by
  rw [q_X10_greatestOf]
  have h := l_greatestOf (gEv N d) b p m M hb hp hm hm3 hw m 0 N 0 (by omega) (by omega) (by omega) (by omega)
  exact h
