-- 69: rooms: the class's way, the call
def SetP (C : gCl) (w : Nat → Int) (c : Int) (R n : Nat) (M0 : gM) (r p : Nat) : Prop := ∀ (o : Nat) (L : Nat → Int) (M : gM), o ≤ 7 → (∀ q i, q ≠ 66 → q ≠ 67 → M q i = M0 q i) → (∀ j, j < o → M 67 j = L j) → (∀ j, o ≤ j → L j = 0) → (∀ j, 0 ≤ L j ∧ L j ≤ 400) →
  (∀ l, srX w c R r p o L = some l → ∃ M', C 14 [.inr (.inr 65), .inl (p : Int), .inl (n : Int), .inl (o : Int), .inl (R : Int), .inl c] M = some (M', some (.inl 1)) ∧ (∀ i, i < l.length → M' 66 (p + i) = ((l.getD i 0 : Nat) : Int)) ∧ (∀ q, q < p → M' 66 q = M 66 q) ∧ (∀ q i, q ≠ 66 → q ≠ 67 → M' q i = M0 q i)) ∧
  (srX w c R r p o L = none → ∃ M', C 14 [.inr (.inr 65), .inl (p : Int), .inl (n : Int), .inl (o : Int), .inl (R : Int), .inl c] M = some (M', some (.inl 0)) ∧ (∀ j, j < o → M' 67 j = L j) ∧ (∀ q, q < p → M' 66 q = M 66 q) ∧ (∀ q i, q ≠ 66 → q ≠ 67 → M' q i = M0 q i))
theorem sf_a (C : gCl) (p n o R k z : Nat) (c s : Int) (M : gM) (hn : n ≤ 7) (hR : R ≤ 7) (ho : o ≤ 7) (hko : k ≤ o) (hkR : k < R) (hs : (k < o ∧ M 67 k = s) ∨ (k = o ∧ s = 0)) : L_X2_settleFrom_16 C (z + 1) (p : Int) (n : Int) (o : Int) (R : Int) c (k : Int) M = L_X2_settleFrom_46 C z (p : Int) (n : Int) (o : Int) (R : Int) c (k : Int) s M := by
  rw [q_X2_settleFrom_16, gIx_e (x := (k : Int)) (n := k) rfl (by omega)]
  rcases hs with ⟨h1, h2⟩ | ⟨h1, h2⟩
  · rw [h2]; simp (disch := omega) only [gInb_t, gLt_t, gLt_f, gEq_t, gEq_f, gIx_nat, gIx_id, gIf, cond_true, cond_false, gCi_some, gCv_some, gCr_some, gB01_0, gB01_1, gBi_01, gU_same, gU_off, gW_id, Int.toNat_natCast, Int.toNat_add, Int.toNat_mul, Int.reduceToNat, Nat.add_zero, Int.add_zero]
  · rw [h2]; simp (disch := omega) only [gInb_t, gLt_t, gLt_f, gEq_t, gEq_f, gIx_nat, gIx_id, gIf, cond_true, cond_false, gCi_some, gCv_some, gCr_some, gB01_0, gB01_1, gBi_01, gU_same, gU_off, gW_id, Int.toNat_natCast, Int.toNat_add, Int.toNat_mul, Int.reduceToNat, Nat.add_zero, Int.add_zero]
theorem sf_b (C : gCl) (p n o R k z : Nat) (c s v : Int) (M : gM) (hp : p < 7) (hk : k < 7) (hc : 1 ≤ c ∧ c ≤ 400) (hs : 0 ≤ s ∧ s ≤ 400) (hv : 0 ≤ v ∧ v ≤ 400) (h65 : M 65 p = v) (hb : c < s + v) : L_X2_settleFrom_46 C (z + 1) (p : Int) (n : Int) (o : Int) (R : Int) c (k : Int) s M = L_X2_settleFrom_16 C z (p : Int) (n : Int) (o : Int) (R : Int) c ((k + 1 : Nat) : Int) M := by
  rw [q_X2_settleFrom_46, gIx_e (x := (p : Int)) (n := p) rfl (by omega), h65, cast_1 k]
  simp (disch := omega) only [gInb_t, gLt_t, gLt_f, gEq_t, gEq_f, gIx_nat, gIx_id, gIf, cond_true, cond_false, gCi_some, gCv_some, gCr_some, gB01_0, gB01_1, gBi_01, gU_same, gU_off, gW_id, Int.toNat_natCast, Int.toNat_add, Int.toNat_mul, Int.reduceToNat, Nat.add_zero, Int.add_zero]
theorem sf_c (C : gCl) (p n o R k z o2 : Nat) (c s v res : Int) (M M' : gM) (hp : p < 7) (hk : k < 7) (ho : o ≤ 7) (hc : 1 ≤ c ∧ c ≤ 400) (hs : 0 ≤ s ∧ s ≤ 400) (hv : 0 ≤ v ∧ v ≤ 400) (h65 : M 65 p = v) (hb : s + v ≤ c) (ho2 : gMax (o : Int) ((k : Int) + 1) = (o2 : Int)) (hC : C 14 [.inr (.inr 65), .inl ((p + 1 : Nat) : Int), .inl (n : Int), .inl (o2 : Int), .inl (R : Int), .inl c] (gU (gU M 67 k (s + v)) 66 p (k : Int)) = some (M', some (.inl res))) : L_X2_settleFrom_46 C (z + 1) (p : Int) (n : Int) (o : Int) (R : Int) c (k : Int) s M = cond (gEq res 0) (L_X2_settleFrom_16 C z (p : Int) (n : Int) (o : Int) (R : Int) c ((k + 1 : Nat) : Int) (gU M' 67 k s)) (some (M', some (.inl 1))) := by
  rw [q_X2_settleFrom_46, gIx_e (x := (p : Int)) (n := p) rfl (by omega), gIx_e (x := (k : Int)) (n := k) rfl (by omega), h65, ho2, cast_1 p, hC, gCi_some, cast_1 k]
  simp (disch := omega) only [gInb_t, gLt_t, gLt_f, gEq_t, gEq_f, gIx_nat, gIx_id, gIf, cond_true, cond_false, gCi_some, gCv_some, gCr_some, gB01_0, gB01_1, gBi_01, gU_same, gU_off, gW_id, Int.toNat_natCast, Int.toNat_add, Int.toNat_mul, Int.reduceToNat, Nat.add_zero, Int.add_zero]
theorem l_sf16 (C : gCl) (w : Nat → Int) (c : Int) (R n : Nat) (M0 : gM) (hR : R ≤ 7) (hn : n ≤ 7) (hc : 1 ≤ c ∧ c ≤ 400) (hw : ∀ j, 0 ≤ w j ∧ w j ≤ 400) (h65 : ∀ j, j < n → M0 65 j = w j) (r p : Nat) (hp : p + (r + 1) = n) (H : SetP C w c R n M0 r (p + 1)) (o : Nat) (L : Nat → Int) (ho : o ≤ 7) (hL0 : ∀ j, o ≤ j → L j = 0) (hb : ∀ j, 0 ≤ L j ∧ L j ≤ 400) : ∀ (m k z : Nat) (M : gM), k + m = min (o + 1) R → 2 * m < z → (∀ q i, q ≠ 66 → q ≠ 67 → M q i = M0 q i) → (∀ j, j < o → M 67 j = L j) →
  (∀ l, fstS (fun room => if L room + w p ≤ c then (srX w c R r (p + 1) (max o (room + 1)) (upN L room (L room + w p))).map (fun l => room :: l) else none) k m = some l → ∃ M', L_X2_settleFrom_16 C z (p : Int) (n : Int) (o : Int) (R : Int) c (k : Int) M = some (M', some (.inl 1)) ∧ (∀ i, i < l.length → M' 66 (p + i) = ((l.getD i 0 : Nat) : Int)) ∧ (∀ q, q < p → M' 66 q = M 66 q) ∧ (∀ q i, q ≠ 66 → q ≠ 67 → M' q i = M0 q i)) ∧
  (fstS (fun room => if L room + w p ≤ c then (srX w c R r (p + 1) (max o (room + 1)) (upN L room (L room + w p))).map (fun l => room :: l) else none) k m = none → ∃ M', L_X2_settleFrom_16 C z (p : Int) (n : Int) (o : Int) (R : Int) c (k : Int) M = some (M', some (.inl 0)) ∧ (∀ j, j < o → M' 67 j = L j) ∧ (∀ q, q < p → M' 66 q = M 66 q) ∧ (∀ q i, q ≠ 66 → q ≠ 67 → M' q i = M0 q i)) := by
  have hwp := hw p
  have ip := gIx_e (x := (p : Int)) (n := p) rfl (by omega)
  intro m
  induction m with
  | zero =>
    intro k z M hk hz hf hL
    obtain ⟨z, rfl⟩ : ∃ y, z = y + 1 := ⟨z - 1, by omega⟩
    refine ⟨fun l h => (by cases h), fun _ => ⟨M, ?_, hL, fun _ _ => rfl, hf⟩⟩
    rw [q_X2_settleFrom_16]
    by_cases h : o < k
    · simp (disch := omega) only [gInb_t, gLt_t, gLt_f, gEq_t, gEq_f, gIx_nat, gIx_id, gIf, cond_true, cond_false, gCi_some, gCv_some, gCr_some, gB01_0, gB01_1, gBi_01, gU_same, gU_off, gW_id, Int.toNat_natCast, Int.toNat_add, Int.toNat_mul, Int.reduceToNat, Nat.add_zero, Int.add_zero]
    · have : R ≤ k := by omega
      simp (disch := omega) only [gInb_t, gLt_t, gLt_f, gEq_t, gEq_f, gIx_nat, gIx_id, gIf, cond_true, cond_false, gCi_some, gCv_some, gCr_some, gB01_0, gB01_1, gBi_01, gU_same, gU_off, gW_id, Int.toNat_natCast, Int.toNat_add, Int.toNat_mul, Int.reduceToNat, Nat.add_zero, Int.add_zero]
  | succ m ih =>
    intro k z M hk hz hf hL
    obtain ⟨z, rfl⟩ : ∃ y, z = y + 1 + 1 := ⟨z - 2, by omega⟩
    have ik := gIx_e (x := (k : Int)) (n := k) rfl (by omega)
    have hbk := hb k
    have hko : k ≤ o := by omega
    have e0 := sf_a C p n o R k (z + 1) c (L k) M hn hR ho hko (by omega) (by
      by_cases h : k < o
      · exact Or.inl ⟨h, hL k h⟩
      · exact Or.inr ⟨by omega, hL0 k (by omega)⟩)
    have hp65 : M 65 p = w p := (hf 65 p (by omega) (by omega)).trans (h65 p (by omega))
    simp only [fstS]
    by_cases hfit : L k + w p ≤ c
    · rw [if_pos hfit]
      have hmax : gMax (o : Int) ((k : Int) + 1) = ((max o (k + 1) : Nat) : Int) := by
        rw [gMax_id (by omega) (by omega) (by omega) (by omega)]
        split <;> omega
      obtain ⟨H1, H2⟩ := H (max o (k + 1)) (upN L k (L k + w p)) (gU (gU M 67 k (L k + w p)) 66 p (k : Int)) (by omega) (fun q i h1 h2 => by
        rw [gU_off _ _ (by omega), gU_off _ _ (by omega)]; exact hf q i h1 h2) (fun j hj => by
        by_cases hjk : j = k
        · subst hjk; rw [gU_off _ _ (by omega), gU_same, upN_same]
        · rw [gU_off _ _ (by omega), gU_off _ _ (by omega), upN_off _ _ hjk]; exact hL j (by omega)) (fun j hj => by
        rw [upN_off _ _ (by omega)]; exact hL0 j (by omega)) (fun j => by
        unfold upN
        split
        · omega
        · exact hb j)
      cases hs : srX w c R r (p + 1) (max o (k + 1)) (upN L k (L k + w p)) with
      | some l' =>
        obtain ⟨M', f1, f2, f3, f4⟩ := H1 l' hs
        refine ⟨fun l h => ?_, fun h => by cases h⟩
        cases h
        have e2 := sf_c C p n o R k z (max o (k + 1)) c (L k) (w p) 1 M M' (by omega) (by omega) ho hc hbk hwp hp65 hfit hmax f1
        rw [gEq_f (by decide) (by decide) (by decide) (by decide) (by decide), cond_false] at e2
        refine ⟨M', e0.trans e2, fun i hi => ?_, fun q hq => ?_, f4⟩
        · match i with
          | 0 =>
            rw [Nat.add_zero, f3 p (by omega), gU_same]
            rfl
          | i + 1 =>
            rw [show p + (i + 1) = p + 1 + i by omega, f2 i (by simp at hi; omega)]
            rfl
        · rw [f3 q (by omega), gU_off _ _ (by omega), gU_off _ _ (by omega)]
      | none =>
        obtain ⟨M', f1, f2, f3, f4⟩ := H2 hs
        have e2 := sf_c C p n o R k z (max o (k + 1)) c (L k) (w p) 0 M M' (by omega) (by omega) ho hc hbk hwp hp65 hfit hmax f1
        rw [gEq_refl, cond_true] at e2
        have hih := ih (k + 1) z (gU M' 67 k (L k)) (by omega) (by omega) (fun q i h1 h2 => by
          rw [gU_off _ _ (by omega)]; exact f4 q i h1 h2) (fun j hj => by
          by_cases hjk : j = k
          · subst hjk; rw [gU_same]
          · rw [gU_off _ _ (by omega), f2 j (by omega), upN_off _ _ hjk])
        have hkeep : ∀ q, q < p → gU M' 67 k (L k) 66 q = M 66 q := fun q h1 => by
          rw [gU_off _ _ (by omega), f3 q (by omega), gU_off _ _ (by omega), gU_off _ _ (by omega)]
        refine ⟨fun l h => ?_, fun h => ?_⟩
        · obtain ⟨M2, g1, g2, g3, g4⟩ := hih.1 l h
          exact ⟨M2, (e0.trans e2).trans g1, g2, fun q hq => (g3 q hq).trans (hkeep q hq), g4⟩
        · obtain ⟨M2, g1, g2, g3, g4⟩ := hih.2 h
          exact ⟨M2, (e0.trans e2).trans g1, g2, fun q hq => (g3 q hq).trans (hkeep q hq), g4⟩
    · rw [if_neg hfit]
      have e2 := sf_b C p n o R k z c (L k) (w p) M (by omega) (by omega) hc hbk hwp hp65 (by omega)
      have hih := ih (k + 1) z M (by omega) (by omega) hf hL
      refine ⟨fun l h => ?_, fun h => ?_⟩
      · obtain ⟨M2, g1, g2⟩ := hih.1 l h
        exact ⟨M2, (e0.trans e2).trans g1, g2⟩
      · obtain ⟨M2, g1, g2⟩ := hih.2 h
        exact ⟨M2, (e0.trans e2).trans g1, g2⟩
theorem l_setP (N : Nat) (w : Nat → Int) (c : Int) (R n : Nat) (M0 : gM) (hN : 100 ≤ N) (hR : R ≤ 7) (hn : n ≤ 7) (hc : 1 ≤ c ∧ c ≤ 400) (hw : ∀ j, 0 ≤ w j ∧ w j ≤ 400) (h65 : ∀ j, j < n → M0 65 j = w j) : ∀ (r p d : Nat), p + r = n → SetP (gEv N (d + r + 1)) w c R n M0 r p := by
  intro r
  induction r with
  | zero =>
    intro p d hp o L M ho hf hL hL0 hb
    have : p = n := by omega
    subst this
    refine ⟨fun l h => ?_, fun h => (by cases h)⟩
    cases h
    refine ⟨M, ?_, fun i hi => absurd hi (Nat.not_lt_zero i), fun _ _ => rfl, hf⟩
    rw [q_X2_settleFrom]
    simp (disch := omega) only [gInb_t, gLt_t, gLt_f, gEq_t, gEq_f, gIx_nat, gIx_id, gIf, cond_true, cond_false, gCi_some, gCv_some, gCr_some, gB01_0, gB01_1, gBi_01, gU_same, gU_off, gW_id, Int.toNat_natCast, Int.toNat_add, Int.toNat_mul, Int.reduceToNat, Nat.add_zero, Int.add_zero]
  | succ r ih =>
    intro p d hp o L M ho hf hL hL0 hb
    have hin := l_sf16 (gEv N (d + r + 1)) w c R n M0 hR hn hc hw h65 r p hp (ih (p + 1) d (by omega)) o L ho hL0 hb (min (o + 1) R) 0 N M (by omega) (by omega) hf hL
    have e1 : gEv N (d + (r + 1) + 1) 14 [.inr (.inr 65), .inl (p : Int), .inl (n : Int), .inl (o : Int), .inl (R : Int), .inl c] M = L_X2_settleFrom_16 (gEv N (d + r + 1)) N (p : Int) (n : Int) (o : Int) (R : Int) c ((0 : Nat) : Int) M := by
      have q := q_X2_settleFrom N (d + r + 1) (p : Int) (n : Int) (o : Int) (R : Int) c M
      refine q.trans ?_
      simp (disch := omega) only [gInb_t, gLt_t, gLt_f, gEq_t, gEq_f, gIx_nat, gIx_id, gIf, cond_true, cond_false, gCi_some, gCv_some, gCr_some, gB01_0, gB01_1, gBi_01, gU_same, gU_off, gW_id, Int.toNat_natCast, Int.toNat_add, Int.toNat_mul, Int.reduceToNat, Nat.add_zero, Int.add_zero]
      rfl
    refine ⟨fun l h => ?_, fun h => ?_⟩
    · obtain ⟨M', g1, g2⟩ := hin.1 l h
      exact ⟨M', e1.trans g1, g2⟩
    · obtain ⟨M', g1, g2⟩ := hin.2 h
      exact ⟨M', e1.trans g1, g2⟩
/-- rooms and who is where, the fewest -/
def fewR (w : Nat → Int) (c : Int) (n : Nat) : Nat → Option (Nat × List Nat) := fun R => (sr w c R n 0 (fun _ => 0)).map (fun l => (R, l))
theorem l_set42 (C : gCl) (w : Nat → Int) (c : Int) (n : Nat) (M0 : gM) (hn : n ≤ 7) (h60 : M0 6 0 = (n : Int)) (H : ∀ R, R ≤ n → SetP C w c R n M0 n 0) : ∀ (m R z : Nat) (M : gM), R + m = n + 1 → m < z → (∀ q i, q ≠ 66 → q ≠ 67 → M q i = M0 q i) → ∀ R' l, fstS (fewR w c n) R m = some (R', l) → ∃ M', L_X2_settle_42 C z c (R : Int) M = some (M', some (.inl (R' : Int))) ∧ (∀ i, i < l.length → M' 66 i = ((l.getD i 0 : Nat) : Int)) ∧ (∀ q i, q ≠ 66 → q ≠ 67 → M' q i = M0 q i) := by
  intro m
  induction m with
  | zero => intro R z M hk hz hf R' l h; cases h
  | succ m ih =>
    intro R z M hk hz hf R' l h
    obtain ⟨z, rfl⟩ : ∃ y, z = y + 1 := ⟨z - 1, by omega⟩
    have h6 : M 6 0 = (n : Int) := (hf 6 0 (by omega) (by omega)).trans h60
    obtain ⟨H1, H2⟩ := H R (by omega) 0 (fun _ => 0) M (by omega) hf (fun j hj => absurd hj (Nat.not_lt_zero j)) (fun _ _ => rfl) (fun _ => ⟨by omega, by omega⟩)
    rw [srX_sr w c R n 0 0 _ (fun _ _ => rfl)] at H1 H2
    simp only [fstS, fewR] at h
    cases hs : sr w c R n 0 (fun _ => 0) with
    | some l' =>
      rw [hs] at h
      cases h
      obtain ⟨M', f1, f2, f3, f4⟩ := H1 l hs
      have f1' : C 14 [.inr (.inr 65), .inl 0, .inl (n : Int), .inl 0, .inl (R : Int), .inl c] M = _ := f1
      refine ⟨M', ?_, fun i hi => by have := f2 i hi; rw [Nat.zero_add] at this; exact this, f4⟩
      rw [q_X2_settle_42, h6, f1', gCi_some]
      simp (disch := omega) only [gInb_t, gLt_t, gLt_f, gEq_t, gEq_f, gIx_nat, gIx_id, gIf, cond_true, cond_false, gCi_some, gCv_some, gCr_some, gB01_0, gB01_1, gBi_01, gU_same, gU_off, gW_id, Int.toNat_natCast, Int.toNat_add, Int.toNat_mul, Int.reduceToNat, Nat.add_zero, Int.add_zero]
    | none =>
      rw [hs] at h
      obtain ⟨M', f1, f2, f3, f4⟩ := H2 hs
      have f1' : C 14 [.inr (.inr 65), .inl 0, .inl (n : Int), .inl 0, .inl (R : Int), .inl c] M = _ := f1
      obtain ⟨M2, g1, g2⟩ := ih (R + 1) z M' (by omega) (by omega) f4 R' l h
      refine ⟨M2, ?_, g2⟩
      rw [q_X2_settle_42, h6, f1', gCi_some, cast_1 R, g1]
      simp (disch := omega) only [gInb_t, gLt_t, gLt_f, gEq_t, gEq_f, gIx_nat, gIx_id, gIf, cond_true, cond_false, gCi_some, gCv_some, gCr_some, gB01_0, gB01_1, gBi_01, gU_same, gU_off, gW_id, Int.toNat_natCast, Int.toNat_add, Int.toNat_mul, Int.reduceToNat, Nat.add_zero, Int.add_zero]
theorem l_set2 (C : gCl) (w : Nat → Int) (c : Int) (n : Nat) (M0 : gM) (hn : n ≤ 7) (hc : 1 ≤ c ∧ c ≤ 400) (hw : ∀ j, 0 ≤ w j ∧ w j ≤ 400) (h60 : M0 6 0 = (n : Int)) (hC : ∀ (M : gM) (j : Nat), j < n → (∀ q i, q ≠ 65 → M q i = M0 q i) → C 27 [.inr (.inr 7), .inl (j : Int), .inl 0] M = some (M, some (.inl (w j)))) : ∀ (r k z : Nat) (M : gM), k + r = n → r < z → (∀ q i, q ≠ 65 → M q i = M0 q i) → (∀ j, j < k → M 65 j = w j) → ((∃ q, k ≤ q ∧ q < n ∧ c < w q) → ∃ M', L_X2_settle_2 C z c (k : Int) M = some (M', some (.inl (-1))) ∧ ∀ q i, q ≠ 65 → M' q i = M0 q i) ∧ ((∀ q, k ≤ q → q < n → w q ≤ c) → ∃ z' M', z ≤ z' + r + 1 ∧ L_X2_settle_2 C z c (k : Int) M = L_X2_settle_42 C z' c 0 M' ∧ (∀ j, j < n → M' 65 j = w j) ∧ ∀ q i, q ≠ 65 → M' q i = M0 q i) := by
  intro r
  induction r with
  | zero =>
    intro k z M hk hz hf h65
    obtain ⟨z, rfl⟩ : ∃ y, z = y + 1 := ⟨z - 1, by omega⟩
    refine ⟨fun ⟨q, h1, h2, h3⟩ => by omega, fun _ => ⟨z, M, by omega, ?_, fun j hj => h65 j (by omega), hf⟩⟩
    rw [q_X2_settle_2, hf 6 0 (by omega), h60]
    simp (disch := omega) only [gInb_t, gLt_t, gLt_f, gEq_t, gEq_f, gIx_nat, gIx_id, gIf, cond_true, cond_false, gCi_some, gCv_some, gCr_some, gB01_0, gB01_1, gBi_01, gU_same, gU_off, gW_id, Int.toNat_natCast, Int.toNat_add, Int.toNat_mul, Int.reduceToNat, Nat.add_zero, Int.add_zero]
  | succ r ih =>
    intro k z M hk hz hf h65
    obtain ⟨z, rfl⟩ : ∃ y, z = y + 1 := ⟨z - 1, by omega⟩
    have hwk := hw k
    have ik := gIx_e (x := (k : Int)) (n := k) rfl (by omega)
    have hf2 : ∀ q i, q ≠ 65 → gU M 65 k (w k) q i = M0 q i := fun q i hq => by rw [gU_off _ _ (by omega)]; exact hf q i hq
    obtain ⟨i1, i2⟩ := ih (k + 1) z (gU M 65 k (w k)) (by omega) (by omega) hf2 (fun j hj => by
      by_cases hjk : j = k
      · subst hjk; rw [gU_same]
      · rw [gU_off _ _ (by omega)]; exact h65 j (by omega))
    by_cases h : c < w k
    · refine ⟨fun _ => ⟨gU M 65 k (w k), ?_, hf2⟩, fun h2 => by have := h2 k (by omega) (by omega); omega⟩
      rw [q_X2_settle_2, hf 6 0 (by omega), h60, hC M k (by omega) hf, gCi_some, ik, gU_same]
      simp (disch := omega) only [gInb_t, gLt_t, gLt_f, gEq_t, gEq_f, gIx_nat, gIx_id, gIf, cond_true, cond_false, gCi_some, gCv_some, gCr_some, gB01_0, gB01_1, gBi_01, gU_same, gU_off, gW_id, Int.toNat_natCast, Int.toNat_add, Int.toNat_mul, Int.reduceToNat, Nat.add_zero, Int.add_zero]
    · have e1 : L_X2_settle_2 C (z + 1) c (k : Int) M = L_X2_settle_2 C z c ((k + 1 : Nat) : Int) (gU M 65 k (w k)) := by
        rw [q_X2_settle_2, hf 6 0 (by omega), h60, hC M k (by omega) hf, gCi_some, ik, gU_same, cast_1 k]
        simp (disch := omega) only [gInb_t, gLt_t, gLt_f, gEq_t, gEq_f, gIx_nat, gIx_id, gIf, cond_true, cond_false, gCi_some, gCv_some, gCr_some, gB01_0, gB01_1, gBi_01, gU_same, gU_off, gW_id, Int.toNat_natCast, Int.toNat_add, Int.toNat_mul, Int.reduceToNat, Nat.add_zero, Int.add_zero]
      refine ⟨fun ⟨q, h1, h2, h3⟩ => ?_, fun h2 => ?_⟩
      · have hqk : q ≠ k := fun e => by subst e; omega
        obtain ⟨M', g1, g2⟩ := i1 ⟨q, by omega, h2, h3⟩
        exact ⟨M', e1.trans g1, g2⟩
      · obtain ⟨z', M', g0, g1, g2⟩ := i2 (fun q h3 h4 => h2 q (by omega) h4)
        exact ⟨z', M', by omega, e1.trans g1, g2⟩
theorem s_settle (N d n : Nat) (w : Nat → Int) (c : Int) (M : gM) (hN : 1000 ≤ N) (hn : n ≤ 7) (hc : 1 ≤ c ∧ c ≤ 400) (hw : ∀ j, 0 ≤ w j ∧ w j ≤ 400) (h60 : M 6 0 = (n : Int)) (hC : ∀ (M' : gM) (j : Nat), j < n → (∀ q i, q ≠ 65 → M' q i = M q i) → gEv N (d + 8) 27 [.inr (.inr 7), .inl (j : Int), .inl 0] M' = some (M', some (.inl (w j)))) : ((∃ q, q < n ∧ c < w q) → ∃ M', gEv N (d + 9) 13 [.inr (.inr 65), .inr (.inr 7), .inl c] M = some (M', some (.inl (-1))) ∧ ∀ q i, q ≠ 65 → M' q i = M q i) ∧ ((∀ q, q < n → w q ≤ c) → ∃ (R : Nat) (l : List Nat) (M' : gM), fstS (fewR w c n) 0 (n + 1) = some (R, l) ∧ gEv N (d + 9) 13 [.inr (.inr 65), .inr (.inr 7), .inl c] M = some (M', some (.inl (R : Int))) ∧ (∀ i, i < l.length → M' 66 i = ((l.getD i 0 : Nat) : Int)) ∧ ∀ q i, ¬ (65 ≤ q ∧ q ≤ 67) → M' q i = M q i) := by
  obtain ⟨i1, i2⟩ := l_set2 (gEv N (d + 8)) w c n M hn hc hw h60 hC n 0 N M (by omega) (by omega) (fun _ _ _ => rfl) (fun j hj => absurd hj (Nat.not_lt_zero j))
  refine ⟨fun ⟨q, h1, h2⟩ => ?_, fun h => ?_⟩
  · obtain ⟨M', g1, g2⟩ := i1 ⟨q, by omega, h1, h2⟩
    exact ⟨M', (q_X2_settle N (d + 8) c M).trans g1, g2⟩
  · obtain ⟨z', M1, g0, g1, g2, g3⟩ := i2 (fun q _ h1 => h q h1)
    have hne : fstS (fewR w c n) 0 (n + 1) ≠ none := fun q => by
      have h1 := (fstS_none _ _ _).mp q n (by omega) (by omega)
      have h2 := sr_own w c n n 0 (fun _ => 0) (by omega) (fun _ _ => rfl) (fun j _ h3 => h j (by omega))
      unfold fewR at h1
      cases hs : sr w c n n 0 (fun _ => 0) with
      | some l => rw [hs] at h1; cases h1
      | none => exact h2 hs
    cases hs : fstS (fewR w c n) 0 (n + 1) with
    | none => exact absurd hs hne
    | some x =>
      obtain ⟨R, l⟩ := x
      obtain ⟨M', f1, f2, f3⟩ := l_set42 (gEv N (d + 8)) w c n M1 hn ((g3 _ _ (by omega)).trans h60) (fun R hR => by
        have := l_setP N w c R n M1 (by omega) (by omega) hn hc hw g2 n 0 (d + 7 - n) (by omega)
        rw [show d + 7 - n + n + 1 = d + 8 by omega] at this
        exact this) (n + 1) 0 z' M1 (by omega) (by omega) (fun _ _ _ _ => rfl) R l hs
      exact ⟨R, l, M', rfl, ((q_X2_settle N (d + 8) c M).trans g1).trans f1, f2, fun q i hq => (f3 q i (by omega) (by omega)).trans (g3 q i (by omega))⟩
theorem l_fit5 (C : gCl) (c : Int) (R : Nat) (M0 : gM) : ∀ (r k z : Nat) (M : gM), k + r = 7 → r < z → (∀ q i, q ≠ 103 → q ≠ 104 → M q i = M0 q i) → (∀ j, j < k → M 103 j = -1 ∧ M 104 j = 0) → ∃ z' M', z ≤ z' + r + 1 ∧ L_X10_fits_5 C z c (R : Int) 0 (k : Int) M = L_X10_fits_34 C z' c (R : Int) 0 7 M' ∧ (∀ q i, q ≠ 103 → q ≠ 104 → M' q i = M0 q i) ∧ (∀ j, j < 7 → M' 103 j = -1 ∧ M' 104 j = 0) := by
  intro r
  induction r with
  | zero =>
    intro k z M hk hz hf h
    obtain ⟨z, rfl⟩ : ∃ y, z = y + 1 := ⟨z - 1, by omega⟩
    have : k = 7 := by omega
    subst this
    refine ⟨z, M, by omega, ?_, hf, h⟩
    rw [q_X10_fits_5]
    simp (disch := omega) only [gInb_t, gLt_t, gLt_f, gEq_t, gEq_f, gIx_nat, gIx_id, gIf, cond_true, cond_false, gCi_some, gCv_some, gCr_some, gB01_0, gB01_1, gBi_01, gU_same, gU_off, gW_id, Int.toNat_natCast, Int.toNat_add, Int.toNat_mul, Int.reduceToNat, Nat.add_zero, Int.add_zero]
    rfl
  | succ r ih =>
    intro k z M hk hz hf h
    obtain ⟨z, rfl⟩ : ∃ y, z = y + 1 := ⟨z - 1, by omega⟩
    obtain ⟨z', M', g0, g1, g2, g3⟩ := ih (k + 1) z (gU (gU M 103 k (-1)) 104 k 0) (by omega) (by omega) (fun q i h1 h2 => by
      rw [gU_off _ _ (by omega), gU_off _ _ (by omega)]; exact hf q i h1 h2) (fun j hj => by
      by_cases hjk : j = k
      · subst hjk
        rw [gU_off _ _ (by omega), gU_same, gU_same]
        exact ⟨rfl, rfl⟩
      · rw [gU_off _ _ (by omega), gU_off _ _ (by omega), gU_off _ _ (by omega), gU_off _ _ (by omega)]
        exact h j (by omega))
    refine ⟨z', M', by omega, ?_, g2, g3⟩
    rw [q_X10_fits_5, gIx_e (x := (k : Int)) (n := k) rfl (by omega), cast_1 k, g1]
    simp (disch := omega) only [gInb_t, gLt_t, gLt_f, gEq_t, gEq_f, gIx_nat, gIx_id, gIf, cond_true, cond_false, gCi_some, gCv_some, gCr_some, gB01_0, gB01_1, gBi_01, gU_same, gU_off, gW_id, Int.toNat_natCast, Int.toNat_add, Int.toNat_mul, Int.reduceToNat, Nat.add_zero, Int.add_zero]
theorem fT_big : ∀ n, n ≤ 7 → fT n ≤ 300000000 := by
  intro n hn
  rcases (by omega : n = 0 ∨ n = 1 ∨ n = 2 ∨ n = 3 ∨ n = 4 ∨ n = 5 ∨ n = 6 ∨ n = 7) with rfl | rfl | rfl | rfl | rfl | rfl | rfl | rfl <;> simp [fT]
theorem s_fits (N d n R : Nat) (w : Nat → Int) (c : Int) (M : gM) (hN : 1000000000 ≤ N) (hn : n ≤ 7) (hR : R ≤ 7) (hc : 1 ≤ c ∧ c ≤ 400) (hw : ∀ j, 0 ≤ w j ∧ w j ≤ 400) (h29 : M 82 29 = (n : Int)) (hC : ∀ (M' : gM) (j : Nat), j < n → (∀ q i, q ≠ 103 → q ≠ 104 → M' q i = M q i) → gEv N d 120 [.inr (.inr 82), .inl 0, .inl (j : Int)] M' = some (M', some (.inl (w j)))) : ∃ M', gEv N (d + 1) 153 [.inr (.inr 82), .inl c, .inl (R : Int)] M = some (M', some (.inl (bI (sr w c R n 0 (fun _ => 0)).isSome))) ∧ (∀ l, sr w c R n 0 (fun _ => 0) = some l → ∀ i, i < l.length → M' 103 i = ((l.getD i 0 : Nat) : Int)) ∧ ∀ q i, q ≠ 103 → q ≠ 104 → M' q i = M q i := by
  have hft := fT_big n hn
  obtain ⟨z', M1, g0, g1, g2, g3⟩ := l_fit5 (gEv N d) c R M 7 0 N M (by omega) (by omega) (fun _ _ _ _ => rfl) (fun j hj => absurd hj (Nat.not_lt_zero j))
  obtain ⟨H1, H2⟩ := l_fitP (gEv N d) w c R n M hR hn hc hw h29 hC n 0 (by omega) z' (fun _ => 0) 7 M1 (by omega) g2 (fun j hj => (g3 j hj).2) (fun _ => ⟨by omega, by omega⟩) (fun q _ hq => (g3 q hq).1)
  have e0 : gEv N (d + 1) 153 [.inr (.inr 82), .inl c, .inl (R : Int)] M = L_X10_fits_34 (gEv N d) z' c (R : Int) ((0 : Nat) : Int) 7 M1 := (q_X10_fits N d c (R : Int) M).trans g1
  cases hs : sr w c R n 0 (fun _ => 0) with
  | some l =>
    obtain ⟨M', f1, f2, f3, f4⟩ := H1 l hs
    exact ⟨M', e0.trans f1, fun l' h => by cases h; exact fun i hi => by have := f2 i hi; rw [Nat.zero_add] at this; exact this, f4⟩
  | none =>
    obtain ⟨z2, x4, M', f0, f1, f2, f3, f4⟩ := H2 hs
    obtain ⟨z2, rfl⟩ : ∃ y, z2 = y + 1 := ⟨z2 - 1, by omega⟩
    refine ⟨M', (e0.trans f1).trans ?_, fun l h => (by cases h), f4⟩
    rw [q_X10_fits_34]
    simp (disch := omega) only [gInb_t, gLt_t, gLt_f, gEq_t, gEq_f, gIx_nat, gIx_id, gIf, cond_true, cond_false, gCi_some, gCv_some, gCr_some, gB01_0, gB01_1, gBi_01, gU_same, gU_off, gW_id, Int.toNat_natCast, Int.toNat_add, Int.toNat_mul, Int.reduceToNat, Nat.add_zero, Int.add_zero]
    rfl
theorem l_m33 (N d n : Nat) (w : Nat → Int) (c x2 : Int) (M0 : gM) (hN : 1000000000 ≤ N) (hn : n ≤ 7) (hc : 1 ≤ c ∧ c ≤ 400) (hw : ∀ j, 0 ≤ w j ∧ w j ≤ 400) (hx : rng x2) (hx2 : x2 = -1 ∨ (0 ≤ x2 ∧ x2 < (n : Int))) (h29 : M0 82 29 = (n : Int)) (hC : ∀ (M' : gM) (j : Nat), j < n → (∀ q i, q ≠ 103 → q ≠ 104 → M' q i = M0 q i) → gEv N d 120 [.inr (.inr 82), .inl 0, .inl (j : Int)] M' = some (M', some (.inl (w j)))) : ∀ (m R z : Nat) (M : gM), R + m = 8 → m < z → (∀ q i, q ≠ 103 → q ≠ 104 → M q i = M0 q i) → ∃ M', L_X10_rooms_33 (gEv N (d + 1)) z c x2 (R : Int) M = some (M', some (.inl (match fstS (fewR w c n) R m with
      | some (R', l) => if x2 = -1 then (R' : Int) else ((l.getD x2.toNat 0 : Nat) : Int)
      | none => -1))) ∧ ∀ q i, q ≠ 103 → q ≠ 104 → M' q i = M0 q i := by
  obtain ⟨hx3, hx4⟩ := hx
  intro m
  induction m with
  | zero =>
    intro R z M hk hz hf
    obtain ⟨z, rfl⟩ : ∃ y, z = y + 1 := ⟨z - 1, by omega⟩
    refine ⟨M, ?_, hf⟩
    rw [q_X10_rooms_33]
    simp only [fstS]
    simp (disch := omega) only [gInb_t, gLt_t, gLt_f, gEq_t, gEq_f, gIx_nat, gIx_id, gIf, cond_true, cond_false, gCi_some, gCv_some, gCr_some, gB01_0, gB01_1, gBi_01, gU_same, gU_off, gW_id, Int.toNat_natCast, Int.toNat_add, Int.toNat_mul, Int.reduceToNat, Nat.add_zero, Int.add_zero]
  | succ m ih =>
    intro R z M hk hz hf
    obtain ⟨z, rfl⟩ : ∃ y, z = y + 1 := ⟨z - 1, by omega⟩
    obtain ⟨M', f1, f2, f3⟩ := s_fits N d n R w c M hN hn (by omega) hc hw ((hf _ _ (by omega) (by omega)).trans h29) (fun M' j hj h => hC M' j hj (fun q i h1 h2 => (h q i h1 h2).trans (hf q i h1 h2)))
    have hf1 : ∀ q i, q ≠ 103 → q ≠ 104 → M' q i = M0 q i := fun q i h1 h2 => (f3 q i h1 h2).trans (hf q i h1 h2)
    simp only [fstS, fewR]
    cases hs : sr w c R n 0 (fun _ => 0) with
    | some l =>
      rw [hs] at f1
      refine ⟨M', ?_, hf1⟩
      rw [q_X10_rooms_33, f1, gCi_some]
      simp only [Option.map_some, Option.isSome_some]
      by_cases h : x2 = -1
      · rw [if_pos h]; simp (disch := omega) only [gInb_t, gLt_t, gLt_f, gEq_t, gEq_f, gIx_nat, gIx_id, gIf, cond_true, cond_false, gCi_some, gCv_some, gCr_some, gB01_0, gB01_1, gBi_01, gU_same, gU_off, gW_id, Int.toNat_natCast, Int.toNat_add, Int.toNat_mul, Int.reduceToNat, Nat.add_zero, Int.add_zero, bI_eq0, bI_B, Bool.not_true, Bool.not_false, bI_t, bI_f]
      · rw [if_neg h]
        have hl := sr_len w c R n 0 _ l hs
        have := f2 l hs x2.toNat (by omega)
        rw [gIx_e (x := x2) (n := x2.toNat) (by omega) (by omega), this]
        simp (disch := omega) only [gInb_t, gLt_t, gLt_f, gEq_t, gEq_f, gIx_nat, gIx_id, gIf, cond_true, cond_false, gCi_some, gCv_some, gCr_some, gB01_0, gB01_1, gBi_01, gU_same, gU_off, gW_id, Int.toNat_natCast, Int.toNat_add, Int.toNat_mul, Int.reduceToNat, Nat.add_zero, Int.add_zero, bI_eq0, bI_B, Bool.not_true, Bool.not_false, bI_t, bI_f]
    | none =>
      rw [hs] at f1
      obtain ⟨M2, g1, g2⟩ := ih (R + 1) z M' (by omega) (by omega) hf1
      refine ⟨M2, ?_, g2⟩
      rw [q_X10_rooms_33, f1, gCi_some, cast_1 R, g1]
      simp only [Option.map_none, Option.isSome_none]
      simp (disch := omega) only [gInb_t, gLt_t, gLt_f, gEq_t, gEq_f, gIx_nat, gIx_id, gIf, cond_true, cond_false, gCi_some, gCv_some, gCr_some, gB01_0, gB01_1, gBi_01, gU_same, gU_off, gW_id, Int.toNat_natCast, Int.toNat_add, Int.toNat_mul, Int.reduceToNat, Nat.add_zero, Int.add_zero, bI_eq0, bI_B, Bool.not_true, Bool.not_false, bI_t, bI_f]
theorem p_rooms (N d : Nat) (a b : Int) (M : gM) (hN : 1000000000 ≤ N) (hI : kInv M) (ha : rng a) (hb : rng b) : kPair N (d + 20) 75 154 [.inl a, .inl b] M := by
  obtain ⟨n, K, t, F, G, c, A, B, c', A', B', l, s, h⟩ := id hI
  obtain ⟨hP, hW, hT, hQ, hQ', hX, hU, hKp, hS, hD, hw, hz⟩ := id h
  have hn := hP.1
  have h6 := hP.2.1
  have m29 := hP.2.2.1
  have hKx := iPpl_kx hP
  have hKm := iPpl_km hP
  obtain ⟨hOk, hG8, hH0⟩ := id hW
  obtain ⟨b1, b2⟩ := id hb
  have c1 := q_X9_rooms N (d + 19) a b M
  have c2 := q_X10_rooms N (d + 19) a b M
  rw [s_xhas _ _ n _ _ hn h6 hb, gCi_some] at c1
  rw [s_mhas _ _ n _ _ hn m29 hb, gCi_some, s_min N _ a 1 400 (((1 : Nat) : Int)) (((400 : Nat) : Int) - ((0 : Nat) : Int)) M ha (rng_c (by omega) (by omega)) (rng_c (by omega) (by omega)) rfl rfl, gCi_some] at c2
  by_cases hu : b ≠ -1 ∧ ¬ (0 ≤ b ∧ b < (n : Int))
  · rw [decide_eq_false hu.2] at c1 c2
    refine kPair_ro (-2) hI (c1.trans ?_) (c2.trans ?_)
    · simp (disch := omega) only [gInb_t, gLt_t, gLt_f, gEq_t, gEq_f, gIx_nat, gIx_id, gIf, cond_true, cond_false, gCi_some, gCv_some, gCr_some, gB01_0, gB01_1, gBi_01, gU_same, gU_off, gW_id, Int.toNat_natCast, Int.toNat_add, Int.toNat_mul, Int.reduceToNat, Nat.add_zero, Int.add_zero, bI_eq0, bI_B, Bool.not_true, Bool.not_false, bI_t, bI_f]
    · simp (disch := omega) only [gInb_t, gLt_t, gLt_f, gEq_t, gEq_f, gIx_nat, gIx_id, gIf, cond_true, cond_false, gCi_some, gCv_some, gCr_some, gB01_0, gB01_1, gBi_01, gU_same, gU_off, gW_id, Int.toNat_natCast, Int.toNat_add, Int.toNat_mul, Int.reduceToNat, Nat.add_zero, Int.add_zero, bI_eq0, bI_B, Bool.not_true, Bool.not_false, bI_t, bI_f]
  · have hx2 : b = -1 ∨ (0 ≤ b ∧ b < (n : Int)) := by omega
    have c3 : gEv N (d + 20) 75 [.inr (.inr 1), .inl a, .inl b] M = L_X9_rooms_19 (gEv N (d + 19)) N a b M := by
      refine c1.trans ?_
      rcases hx2 with h | h
      · simp (disch := omega) only [gInb_t, gLt_t, gLt_f, gEq_t, gEq_f, gIx_nat, gIx_id, gIf, cond_true, cond_false, gCi_some, gCv_some, gCr_some, gB01_0, gB01_1, gBi_01, gU_same, gU_off, gW_id, Int.toNat_natCast, Int.toNat_add, Int.toNat_mul, Int.reduceToNat, Nat.add_zero, Int.add_zero, bI_eq0, bI_B, Bool.not_true, Bool.not_false, bI_t, bI_f]
      · rw [decide_eq_true h]; simp (disch := omega) only [gInb_t, gLt_t, gLt_f, gEq_t, gEq_f, gIx_nat, gIx_id, gIf, cond_true, cond_false, gCi_some, gCv_some, gCr_some, gB01_0, gB01_1, gBi_01, gU_same, gU_off, gW_id, Int.toNat_natCast, Int.toNat_add, Int.toNat_mul, Int.reduceToNat, Nat.add_zero, Int.add_zero, bI_eq0, bI_B, Bool.not_true, Bool.not_false, bI_t, bI_f]
    have c5 : ∀ z, 1 ≤ z → L_X9_rooms_19 (gEv N (d + 19)) z a b M = gCi (some (M, some (.inl (bI (decide (1 ≤ a ∧ a ≤ 400)))))) (fun M1 r2 => cond (gEq r2 0) (some (M1, some (.inl (-3)))) (gCi (gEv N (d + 19) 13 [.inr (.inr 65), .inr (.inr 7), .inl a] M1) (fun M3 r4 => cond (gEq r4 (-1)) (some (M3, some (.inl r4))) (cond (gEq b (-1)) (some (M3, some (.inl r4))) (gIf (gInb b 7) (some (M3, some (.inl (M3 66 (gIx b)))))))))) := fun z hz => by
      obtain ⟨z, rfl⟩ : ∃ y, z = y + 1 := ⟨z - 1, by omega⟩
      rw [q_X9_rooms_19, s_xin N _ a 1 400 M ha (rng_c (by omega) (by omega)) (rng_c (by omega) (by omega))]
    rw [c5 N (by omega), gCi_some] at c3
    by_cases h0 : 1 ≤ a ∧ a ≤ 400
    · rw [decide_eq_true h0] at c3 c2
      let w : Nat → Int := fun j => if j < n then ld K F 0 j else 0
      have hwn : ∀ j, j < n → ld K F 0 j = w j := fun j hj => (if_pos hj).symm
      have hw' : ∀ j, 0 ≤ w j ∧ w j ≤ 400 := fun j => by
        show 0 ≤ (if j < n then ld K F 0 j else 0) ∧ (if j < n then ld K F 0 j else 0) ≤ 400
        split
        · rename_i hj
          exact ld_bd (hKx.2 j hj).1 (hOk.2.2 j hj)
        · omega
      obtain ⟨i1, i2⟩ := s_settle N (d + 10) n w a M (by omega) hn h0 hw' h6 (fun M' j hj hf => by
        rw [← hwn j hj]
        exact s_xload0 N (d + 15) j n K t F M' (by omega) hn hj ⟨by rw [hf _ _ (by omega)]; exact hKx.1, fun p hp => ⟨(hKx.2 p hp).1, by rw [hf _ _ (by omega)]; exact (hKx.2 p hp).2⟩⟩ hOk (kG_fr hG8 hOk.2.2 hn (fun q i hq => hf q i (by omega))))
      have hmod : ∀ M1, (∀ q i, ¬ kScr q i → M1 q i = M q i) → (∀ i, i < 414 → M1 82 i = M 82 i) → ∃ M2, L_X10_rooms_33 (gEv N (d + 19)) N a b 0 M1 = some (M2, some (.inl (match fstS (fewR w a n) 0 8 with
          | some (R', l) => if b = -1 then (R' : Int) else ((l.getD b.toNat 0 : Nat) : Int)
          | none => -1))) ∧ ∀ q i, q ≠ 103 → q ≠ 104 → M2 q i = M1 q i := fun M1 hs1 hs2 => l_m33 N (d + 18) n w a b M1 hN hn h0 hw' hb hx2 ((hs2 _ (by omega)).trans m29) (fun M' j hj hf => by
        rw [← hwn j hj]
        exact s_mload0 N (d + 15) j n K t F M' (by omega) hn hj (kKm_fr hKm hn (fun i h1 h2 => (hf _ _ (by omega) (by omega)).trans (hs2 _ (by omega)))) hOk (kH_fr hH0 hOk.2.2 hn (fun i h1 h2 => (hf _ _ (by omega) (by omega)).trans (hs2 _ (by omega))))) 8 0 N M1 (by omega) (by omega) (fun _ _ _ _ => rfl)
      have c6 : ∀ M1, (∀ i, i < 414 → M1 82 i = M 82 i) → gEv N (d + 20) 154 [.inr (.inr 82), .inl a, .inl b] M1 = L_X10_rooms_33 (gEv N (d + 19)) N a b 0 M1 := fun M1 hs2 => by
        refine (q_X10_rooms N (d + 19) a b M1).trans ?_
        rw [s_mhas _ _ n _ _ hn ((hs2 _ (by omega)).trans m29) hb, gCi_some, s_min N _ a 1 400 (((1 : Nat) : Int)) (((400 : Nat) : Int) - ((0 : Nat) : Int)) M1 ha (rng_c (by omega) (by omega)) (rng_c (by omega) (by omega)) rfl rfl, gCi_some, decide_eq_true h0]
        rcases hx2 with h | h
        · simp (disch := omega) only [gInb_t, gLt_t, gLt_f, gEq_t, gEq_f, gIx_nat, gIx_id, gIf, cond_true, cond_false, gCi_some, gCv_some, gCr_some, gB01_0, gB01_1, gBi_01, gU_same, gU_off, gW_id, Int.toNat_natCast, Int.toNat_add, Int.toNat_mul, Int.reduceToNat, Nat.add_zero, Int.add_zero, bI_eq0, bI_B, Bool.not_true, Bool.not_false, bI_t, bI_f]
        · rw [decide_eq_true h]; simp (disch := omega) only [gInb_t, gLt_t, gLt_f, gEq_t, gEq_f, gIx_nat, gIx_id, gIf, cond_true, cond_false, gCi_some, gCv_some, gCr_some, gB01_0, gB01_1, gBi_01, gU_same, gU_off, gW_id, Int.toNat_natCast, Int.toNat_add, Int.toNat_mul, Int.reduceToNat, Nat.add_zero, Int.add_zero, bI_eq0, bI_B, Bool.not_true, Bool.not_false, bI_t, bI_f]
      by_cases hbig : ∃ q, q < n ∧ a < w q
      · obtain ⟨M1, f1, f2⟩ := i1 hbig
        have hs1 : ∀ q i, ¬ kScr q i → M1 q i = M q i := fun q i hq => f2 q i (by unfold kScr at hq; omega)
        have hs2 : ∀ i, i < 414 → M1 82 i = M 82 i := fun i _ => f2 _ _ (by omega)
        obtain ⟨M2, g1, g2⟩ := hmod M1 hs1 hs2
        have hnone : fstS (fewR w a n) 0 8 = none := by
          rw [fstS_none]
          intro R _ _
          obtain ⟨q, q1, q2⟩ := hbig
          unfold fewR
          rw [sr_big w a R q q2 n 0 _ (by omega) (by omega) (fun _ => by omega) (fun j => (hw' j).1)]
          rfl
        rw [hnone] at g1
        refine kPair_sc (-1) hI (c3.trans ?_) ((c6 M1 hs2).trans g1) hs1 (fun q i hq => g2 q i (by unfold kScr at hq; omega) (by unfold kScr at hq; omega))
        rw [f1, gCi_some]; simp (disch := omega) only [gInb_t, gLt_t, gLt_f, gEq_t, gEq_f, gIx_nat, gIx_id, gIf, cond_true, cond_false, gCi_some, gCv_some, gCr_some, gB01_0, gB01_1, gBi_01, gU_same, gU_off, gW_id, Int.toNat_natCast, Int.toNat_add, Int.toNat_mul, Int.reduceToNat, Nat.add_zero, Int.add_zero, bI_eq0, bI_B, Bool.not_true, Bool.not_false, bI_t, bI_f]
      · obtain ⟨R, l, M1, f0, f1, f3, f2⟩ := i2 (fun q hq => by
          have : ¬ (a < w q) := fun h => hbig ⟨q, hq, h⟩
          omega)
        have hs1 : ∀ q i, ¬ kScr q i → M1 q i = M q i := fun q i hq => f2 q i (by unfold kScr at hq; omega)
        have hs2 : ∀ i, i < 414 → M1 82 i = M 82 i := fun i _ => f2 _ _ (by omega)
        obtain ⟨M2, g1, g2⟩ := hmod M1 hs1 hs2
        have hsp := fstS_split (fewR w a n) (8 - (n + 1)) (n + 1) 0
        rw [show n + 1 + (8 - (n + 1)) = 8 by omega, f0] at hsp
        rw [hsp] at g1
        have hR7 : R ≤ 7 ∧ l.length = n := by
          have h1 : ∀ m k, fstS (fewR w a n) k m = some (R, l) → R < k + m ∧ l.length = n := by
            intro m
            induction m with
            | zero => intro k h; cases h
            | succ m ih =>
              intro k h
              simp only [fstS, fewR] at h
              cases hs : sr w a k n 0 (fun _ => 0) with
              | some l' =>
                rw [hs] at h
                cases h
                exact ⟨by omega, sr_len w a R n 0 _ l hs⟩
              | none =>
                rw [hs] at h
                have := ih (k + 1) h
                exact ⟨by omega, this.2⟩
          have := h1 (n + 1) 0 f0
          exact ⟨by omega, this.2⟩
        by_cases hb1 : b = -1
        · simp only [if_pos hb1] at g1
          refine kPair_sc (R : Int) hI (c3.trans ?_) ((c6 M1 hs2).trans g1) hs1 (fun q i hq => g2 q i (by unfold kScr at hq; omega) (by unfold kScr at hq; omega))
          rw [f1, gCi_some]; simp (disch := omega) only [gInb_t, gLt_t, gLt_f, gEq_t, gEq_f, gIx_nat, gIx_id, gIf, cond_true, cond_false, gCi_some, gCv_some, gCr_some, gB01_0, gB01_1, gBi_01, gU_same, gU_off, gW_id, Int.toNat_natCast, Int.toNat_add, Int.toNat_mul, Int.reduceToNat, Nat.add_zero, Int.add_zero, bI_eq0, bI_B, Bool.not_true, Bool.not_false, bI_t, bI_f]
        · simp only [if_neg hb1] at g1
          have := f3 b.toNat (by omega)
          refine kPair_sc ((l.getD b.toNat 0 : Nat) : Int) hI (c3.trans ?_) ((c6 M1 hs2).trans g1) hs1 (fun q i hq => g2 q i (by unfold kScr at hq; omega) (by unfold kScr at hq; omega))
          rw [f1, gCi_some, gIx_e (x := b) (n := b.toNat) (by omega) (by omega), this]; simp (disch := omega) only [gInb_t, gLt_t, gLt_f, gEq_t, gEq_f, gIx_nat, gIx_id, gIf, cond_true, cond_false, gCi_some, gCv_some, gCr_some, gB01_0, gB01_1, gBi_01, gU_same, gU_off, gW_id, Int.toNat_natCast, Int.toNat_add, Int.toNat_mul, Int.reduceToNat, Nat.add_zero, Int.add_zero, bI_eq0, bI_B, Bool.not_true, Bool.not_false, bI_t, bI_f]
    · rw [decide_eq_false h0] at c3 c2
      refine kPair_ro (-3) hI (c3.trans ?_) (c2.trans ?_)
      · simp (disch := omega) only [gInb_t, gLt_t, gLt_f, gEq_t, gEq_f, gIx_nat, gIx_id, gIf, cond_true, cond_false, gCi_some, gCv_some, gCr_some, gB01_0, gB01_1, gBi_01, gU_same, gU_off, gW_id, Int.toNat_natCast, Int.toNat_add, Int.toNat_mul, Int.reduceToNat, Nat.add_zero, Int.add_zero, bI_eq0, bI_B, Bool.not_true, Bool.not_false, bI_t, bI_f]
      · rcases hx2 with h | h
        · simp (disch := omega) only [gInb_t, gLt_t, gLt_f, gEq_t, gEq_f, gIx_nat, gIx_id, gIf, cond_true, cond_false, gCi_some, gCv_some, gCr_some, gB01_0, gB01_1, gBi_01, gU_same, gU_off, gW_id, Int.toNat_natCast, Int.toNat_add, Int.toNat_mul, Int.reduceToNat, Nat.add_zero, Int.add_zero, bI_eq0, bI_B, Bool.not_true, Bool.not_false, bI_t, bI_f]
        · rw [decide_eq_true h]; simp (disch := omega) only [gInb_t, gLt_t, gLt_f, gEq_t, gEq_f, gIx_nat, gIx_id, gIf, cond_true, cond_false, gCi_some, gCv_some, gCr_some, gB01_0, gB01_1, gBi_01, gU_same, gU_off, gW_id, Int.toNat_natCast, Int.toNat_add, Int.toNat_mul, Int.reduceToNat, Nat.add_zero, Int.add_zero, bI_eq0, bI_B, Bool.not_true, Bool.not_false, bI_t, bI_f]
