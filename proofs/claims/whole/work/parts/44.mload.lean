-- 44: the model's loads, fades, steps
theorem hL_len (f : Nat → Int) : ∀ (r k : Nat), (hL f k r).length = r
  | 0, _ => rfl
  | r + 1, k => by
    show (hL f (k + 1) r).length + 1 = r + 1
    rw [hL_len f r (k + 1)]
theorem s_loadBy (N d b p K m : Nat) (M : gM) (hN : 4 ≤ N) (hb : b ≤ 414) (hp : p < 7) (hK : K < 5) (hm : M 82 (b + 21 + p) = (m : Int)) (hm3 : m ≤ 3) (hw : ∀ j, j < m → 1 ≤ M 82 (b + 3 * p + j) ∧ M 82 (b + 3 * p + j) ≤ 99) : gEv N (d + 2) 119 [.inr (.inr 82), .inl (b : Int), .inl (p : Int), .inl (K : Int)] M = some (M, some (.inl (loadK K (hL (fun j => M 82 (b + 3 * p + j)) 0 m)))) := by
  have hw2 : ∀ j, j < m → 0 ≤ M 82 (b + 3 * p + j) ∧ M 82 (b + 3 * p + j) < 2147483648 := fun j hj => by
    have := hw j hj
    omega
  rw [q_X10_loadBy, s_sumOf N d b p m M hN hb hp hm hm3, s_greatestOf N d b p m M hN hb hp hm hm3 hw2, hSum_L, hMax_L]
  simp only [gCi_some]
  match K, hK with
  | 0, _ => simp [gEq_id, loadK]
  | 1, _ =>
    rw [s_greatestOf N d b p m M hN hb hp hm hm3 hw2, hMax_L]
    simp [gEq_id, loadK, gCi_some]
  | 2, _ =>
    rw [gEq_id (by omega) (by omega) (by omega) (by omega), gEq_id (by omega) (by omega) (by omega) (by omega), gInb_e (k := b + 21 + p) (by omega) (by omega) (by omega), gIx_e (n := b + 21 + p) (by omega) (by omega), hm, show gLt 1 (m : Int) = decide (1 < m) from gLt_e (a := 1) (b := m) rfl rfl (by omega) (by omega)]
    by_cases h2 : 1 < m
    · have h3 : ¬ m < 2 := by omega
      simp [loadK, hL_len, h2, h3, gIf]
    · have h3 : m < 2 := by omega
      simp [loadK, hL_len, h2, h3, gIf]
  | 3, _ => simp [gEq_id, loadK]
  | 4, _ => simp [gEq_id, loadK]
theorem s_load (N d b p K m : Nat) (M : gM) (hN : 4 ≤ N) (hb : b ≤ 414) (hp : p < 7) (hK : K < 5) (hk : M 82 (30 + p) = (K : Int)) (hm : M 82 (b + 21 + p) = (m : Int)) (hm3 : m ≤ 3) (hw : ∀ j, j < m → 1 ≤ M 82 (b + 3 * p + j) ∧ M 82 (b + 3 * p + j) ≤ 99) : gEv N (d + 3) 120 [.inr (.inr 82), .inl (b : Int), .inl (p : Int)] M = some (M, some (.inl (loadK K (hL (fun j => M 82 (b + 3 * p + j)) 0 m)))) := by
  rw [q_X10_load, gInb_e (k := 30 + p) (by omega) (by omega) (by omega), gIx_e (n := 30 + p) (by omega) (by omega), hk, s_loadBy N d b p K m M hN hb hp hK hm hm3 hw]
  rfl
theorem s_mfades (N d K : Nat) (M : gM) (hK : K < 5) : gEv N (d + 1) 121 [.inl (K : Int)] M = some (M, some (.inl (fadesN K : Int))) := by
  rw [q_X10_fades]
  match K, hK with
  | 0, _ => simp [gEq_id, fadesN]
  | 1, _ => simp [gEq_id, fadesN]
  | 2, _ => simp [gEq_id, fadesN]
  | 3, _ => simp [gEq_id, fadesN]
  | 4, _ => simp [gEq_id, fadesN]
