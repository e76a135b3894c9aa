-- 43: the class's loads
theorem gMax_id {x y : Int} (h1 : -2147483648 ≤ x) (h2 : x < 2147483648) (h3 : -2147483648 ≤ y) (h4 : y < 2147483648) : gMax x y = if x < y then y else x := by
  unfold gMax
  have e : gI x < gI y ↔ x < y := by
    rw [← gLt_iff, gLt_id h1 h2 h3 h4, decide_eq_true_iff]
  by_cases hc : x < y
  · rw [if_pos (e.mpr hc), if_pos hc]
    exact gW_id h3 h4
  · rw [if_neg (fun q => hc (e.mp q)), if_neg hc]
    exact gW_id h1 h2
/-- the numbers f k, f (k + 1), .. r of them -/
def hL (f : Nat → Int) (k : Nat) : Nat → List Int
  | 0 => []
  | r + 1 => f k :: hL f (k + 1) r
def sumL : List Int → Int
  | [] => 0
  | x :: l => x + sumL l
def maxL (m : Int) : List Int → Int
  | [] => m
  | x :: l => maxL (if m < x then x else m) l
def fadeL (b : Int) : List Int → List Int
  | [] => []
  | x :: l => if 0 < x - b then (x - b) :: fadeL b l else fadeL b l
def loadK (kind : Nat) (l : List Int) : Int := match kind with
  | 1 => sumL l + maxL 0 l
  | 2 => if l.length < 2 then sumL l else sumL l + 5
  | 3 => maxL 0 l
  | 4 => gDiv (maxL 0 l) 2
  | _ => sumL l
def fadesN (kind : Nat) : Nat := [3, 1, 3, 6, 0].getD kind 0
theorem hSum_L (f : Nat → Int) : ∀ (r k : Nat), hSum f k r = sumL (hL f k r)
  | 0, _ => rfl
  | r + 1, k => by
    show f k + hSum f (k + 1) r = f k + sumL (hL f (k + 1) r)
    rw [hSum_L f r (k + 1)]
theorem hMax_L (f : Nat → Int) : ∀ (r k : Nat) (m : Int), hMax f k m r = maxL m (hL f k r)
  | 0, _, _ => rfl
  | r + 1, k, m => hMax_L f r (k + 1) _
/-- the places of Griefs -/
def gPl (g : Nat) : Prop := g = 8 ∨ g = 11 ∨ g = 22 ∨ g = 25 ∨ g = 28 ∨ g = 31 ∨ g = 34 ∨ g = 37 ∨ g = 40 ∨ g = 43 ∨ g = 47 ∨ g = 50
theorem s_weight (N d g p k : Nat) (M : gM) (hg : gPl g) (hp : p < 7) (hk : k < 3) : gEv N (d + 1) 8 [.inr (.inr (g + 1)), .inl (p : Int), .inl (k : Int)] M = some (M, some (.inl (M (g + 2) (3 * p + k)))) := by
  rw [q_X1_weight _ _ _ _ _ _ hg, gInb_e (k := 3 * p + k) (by omega) (by omega) (by omega), gIx_e (n := 3 * p + k) (by omega) (by omega)]
  rfl
theorem l_loadAs (N d g p K c m : Nat) (M : gM) (hg : gPl g) (hp : p < 7) (hK : K < 5) (hc : c ≤ 60) (hm : M (g + 1) p = (m : Int)) (hm3 : m ≤ 3) (hw : ∀ j, j < m → 1 ≤ M (g + 2) (3 * p + j) ∧ M (g + 2) (3 * p + j) ≤ 99) : ∀ (r k n : Nat) (s t : Int) (q : Nat), k + r = m → r < n → 0 ≤ t → t ≤ 1000 → q ≤ k →
    L_X1_loadAs_12 (gEv N (d + 1)) n g (p : Int) (K : Int) (c : Int) s t (q : Int) (k : Int) M = some (M, some (.inl (match K with
      | 1 => (s + sumL (fadeL ((c * fadesN K : Nat) : Int) (hL (fun j => M (g + 2) (3 * p + j)) k r))) + maxL t (fadeL ((c * fadesN K : Nat) : Int) (hL (fun j => M (g + 2) (3 * p + j)) k r))
      | 2 => if q + (fadeL ((c * fadesN K : Nat) : Int) (hL (fun j => M (g + 2) (3 * p + j)) k r)).length < 2 then s + sumL (fadeL ((c * fadesN K : Nat) : Int) (hL (fun j => M (g + 2) (3 * p + j)) k r)) else s + sumL (fadeL ((c * fadesN K : Nat) : Int) (hL (fun j => M (g + 2) (3 * p + j)) k r)) + 5
      | 3 => maxL t (fadeL ((c * fadesN K : Nat) : Int) (hL (fun j => M (g + 2) (3 * p + j)) k r))
      | 4 => gDiv (maxL t (fadeL ((c * fadesN K : Nat) : Int) (hL (fun j => M (g + 2) (3 * p + j)) k r))) 2
      | _ => s + sumL (fadeL ((c * fadesN K : Nat) : Int) (hL (fun j => M (g + 2) (3 * p + j)) k r))))) := by
  intro r
  have hfade : ((List.getD [4, 2, 4, 7, 1] K 0 : Nat) : Int) - 1 = (fadesN K : Int) := by
    match K, hK with
    | 0, _ => rfl
    | 1, _ => rfl
    | 2, _ => rfl
    | 3, _ => rfl
    | 4, _ => rfl
  have hfl : fadesN K ≤ 6 := by
    match K, hK with
    | 0, _ => decide
    | 1, _ => decide
    | 2, _ => decide
    | 3, _ => decide
    | 4, _ => decide
  have hcf : c * fadesN K ≤ 360 := Nat.mul_le_mul hc hfl
  induction r with
  | zero =>
    intro k n s t q hk hn h0 h1 hq
    obtain ⟨n, rfl⟩ : ∃ z, n = z + 1 := ⟨n - 1, by omega⟩
    rw [q_X1_loadAs_12 _ _ _ _ _ _ _ _ _ _ _ hg, gInb_e (k := p) rfl (by omega) (by omega), gIx_e (n := p) rfl (by omega), hm, gLt_e (a := k) (b := m) rfl rfl (by omega) (by omega), decide_eq_false (show ¬ k < m by omega)]
    simp only [gIf, cond_true, cond_false, hL, fadeL, sumL, maxL, List.length_nil, Nat.add_zero, Int.add_zero]
    match K, hK with
    | 0, _ => simp [gEq_id]
    | 1, _ => simp [gEq_id]
    | 2, _ =>
      rw [gEq_id (by omega) (by omega) (by omega) (by omega), gEq_id (by omega) (by omega) (by omega) (by omega), show gLt (q : Int) 2 = decide (q < 2) from gLt_e (a := q) (b := 2) rfl rfl (by omega) (by omega)]
      by_cases h2 : q < 2 <;> simp [h2]
    | 3, _ => simp [gEq_id]
    | 4, _ => simp [gEq_id]
  | succ r ih =>
    intro k n s t q hk hn h0 h1 hq
    obtain ⟨n, rfl⟩ : ∃ z, n = z + 1 := ⟨n - 1, by omega⟩
    have hwk := hw k (by omega)
    have hmul : (c : Int) * (fadesN K : Int) = ((c * fadesN K : Nat) : Int) := (Int.natCast_mul c (fadesN K)).symm
    rw [q_X1_loadAs_12 _ _ _ _ _ _ _ _ _ _ _ hg, gInb_e (k := p) rfl (by omega) (by omega), gIx_e (n := p) rfl (by omega), hm, gLt_e (a := k) (b := m) rfl rfl (by omega) (by omega), decide_eq_true (show k < m by omega), s_weight N d g p k M hg hp (by omega), gCi_some, gInb_e (k := K) rfl (by omega) (by omega), gIx_e (n := K) rfl (by omega), hfade, hmul, gLt_id (by omega) (by omega) (by omega) (by omega)]
    simp only [gIf, cond_true]
    rw [show (k : Int) + 1 = ((k + 1 : Nat) : Int) by omega]
    have hfd : fadeL ((c * fadesN K : Nat) : Int) (hL (fun j => M (g + 2) (3 * p + j)) k (r + 1)) = if 0 < M (g + 2) (3 * p + k) - ((c * fadesN K : Nat) : Int) then (M (g + 2) (3 * p + k) - ((c * fadesN K : Nat) : Int)) :: fadeL ((c * fadesN K : Nat) : Int) (hL (fun j => M (g + 2) (3 * p + j)) (k + 1) r) else fadeL ((c * fadesN K : Nat) : Int) (hL (fun j => M (g + 2) (3 * p + j)) (k + 1) r) := rfl
    by_cases hc2 : 0 < M (g + 2) (3 * p + k) - ((c * fadesN K : Nat) : Int)
    · rw [decide_eq_true hc2]
      simp only [cond_true]
      rw [gMax_id (by omega) (by omega) (by omega) (by omega), show (q : Int) + 1 = ((q + 1 : Nat) : Int) by omega, ih (k + 1) n _ _ (q + 1) (by omega) (by omega) (by split <;> omega) (by split <;> omega) (by omega), hfd, if_pos hc2]
      simp only [sumL, maxL, List.length_cons, Int.add_assoc, show ∀ z : Nat, q + 1 + z = q + (z + 1) from fun z => by omega]
    · rw [decide_eq_false hc2]
      simp only [cond_false]
      rw [ih (k + 1) n _ _ q (by omega) (by omega) h0 h1 (by omega), hfd, if_neg hc2]
theorem s_loadAs (N d g p K c m : Nat) (M : gM) (hN : 4 ≤ N) (hg : gPl g) (hp : p < 7) (hK : K < 5) (hc : c ≤ 60) (hm : M (g + 1) p = (m : Int)) (hm3 : m ≤ 3) (hw : ∀ j, j < m → 1 ≤ M (g + 2) (3 * p + j) ∧ M (g + 2) (3 * p + j) ≤ 99) : gEv N (d + 2) 12 [.inr (.inr (g + 1)), .inl (p : Int), .inl (K : Int), .inl (c : Int)] M = some (M, some (.inl (loadK K (fadeL ((c * fadesN K : Nat) : Int) (hL (fun j => M (g + 2) (3 * p + j)) 0 m))))) := by
  rw [q_X1_loadAs _ _ _ _ _ _ _ hg]
  have h := l_loadAs N d g p K c m M hg hp hK hc hm hm3 hw m 0 N 0 0 0 (by omega) (by omega) (by omega) (by omega) (by omega)
  refine Eq.trans h ?_
  match K, hK with
  | 0, _ => simp [loadK]
  | 1, _ => simp [loadK]
  | 2, _ => simp [loadK]
  | 3, _ => simp [loadK]
  | 4, _ => simp [loadK]
