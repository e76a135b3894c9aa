-- 46: rows for going through the small machine's equations by simp
theorem gLt_t {x y : Int} (h : x < y) (h1 : -2147483648 ≤ x) (h2 : y < 2147483648) : gLt x y = true := by
  rw [gLt_id h1 (by omega) (by omega) h2]; exact decide_eq_true h
theorem gLt_f {x y : Int} (h : y ≤ x) (h1 : x < 2147483648) (h2 : -2147483648 ≤ y) : gLt x y = false := by
  rw [gLt_id (by omega) h1 h2 (by omega)]; exact decide_eq_false (by omega)
theorem gEq_t {x y : Int} (h : x = y) : gEq x y = true := by rw [h]; exact gEq_refl y
theorem gEq_f {x y : Int} (h : x ≠ y) (h1 : -2147483648 ≤ x) (h2 : x < 2147483648) (h3 : -2147483648 ≤ y) (h4 : y < 2147483648) : gEq x y = false := by
  rw [gEq_id h1 h2 h3 h4]; exact decide_eq_false h
theorem gCr_some {α : Type} (M : gM) (r : Nat) (K : gM → Nat → Option α) : gCr (some (M, some (.inr (.inr r)))) K = K M r := rfl
/-- in row q of the store, from s on, lies this list -/
def gAtL (M : gM) (q s : Nat) (l : List Int) : Prop := ∀ j, j < l.length → M q (s + j) = l.getD j 0
theorem gAtL_hL {M : gM} {q s : Nat} : ∀ (l : List Int) (k : Nat), (∀ j, j < l.length → M q (s + (k + j)) = l.getD j 0) → hL (fun j => M q (s + j)) k l.length = l := by
  intro l
  induction l with
  | nil => intro k _; rfl
  | cons x l ih =>
    intro k h
    show M q (s + k) :: hL (fun j => M q (s + j)) (k + 1) l.length = x :: l
    have h0 := h 0 (by simp)
    simp only [Nat.add_zero, List.getD_cons_zero] at h0
    rw [h0, ih (k + 1) (fun j hj => by
      have := h (j + 1) (by simp; omega)
      simp only [List.getD_cons_succ] at this
      rw [show k + 1 + j = k + (j + 1) by omega]
      exact this)]
theorem gAtL_list {M : gM} {q s : Nat} {l : List Int} (h : gAtL M q s l) : hL (fun j => M q (s + j)) 0 l.length = l := gAtL_hL l 0 (fun j hj => by rw [Nat.zero_add]; exact h j hj)
theorem gAtL_fr {M M' : gM} {q s q' s' : Nat} {l : List Int} (h : gAtL M q s l) (e : ∀ j, j < l.length → M' q' (s' + j) = M q (s + j)) : gAtL M' q' s' l := fun j hj => (e j hj).trans (h j hj)
theorem fadeL_le (b : Int) : ∀ l : List Int, (fadeL b l).length ≤ l.length
  | [] => Nat.le_refl _
  | x :: l => by
    have := fadeL_le b l
    simp only [fadeL]
    split <;> simp <;> omega
/-- the model's fade -/
theorem l_mfade (C : gCl) (b p : Nat) (by' : Int) (hb : b ≤ 414) (hp : p < 7) (hy : 0 ≤ by' ∧ by' ≤ 1000) : ∀ (r : List Int) (k c n : Nat) (M : gM), c ≤ k → k + r.length ≤ 3 → r.length < n → M 82 (b + 21 + p) = ((k + r.length : Nat) : Int) → (∀ x ∈ r, 1 ≤ x ∧ x ≤ 99) → (∀ j, j < r.length → M 82 (b + 3 * p + k + j) = r.getD j 0) →
    ∃ M', L_X10_fade_6 C n (b : Int) (p : Int) by' (c : Int) (k : Int) M = some (M', none) ∧ M' 82 (b + 21 + p) = ((c + (fadeL by' r).length : Nat) : Int) ∧ (∀ j, j < c → M' 82 (b + 3 * p + j) = M 82 (b + 3 * p + j)) ∧ (∀ j, j < (fadeL by' r).length → M' 82 (b + 3 * p + c + j) = (fadeL by' r).getD j 0) ∧ (∀ q i, ¬ (q = 82 ∧ (i = b + 21 + p ∨ (b + 3 * p ≤ i ∧ i < b + 3 * p + 3))) → M' q i = M q i) := by
  intro r
  induction r with
  | nil =>
    intro k c n M hck hk hn hm hw hr
    obtain ⟨n, rfl⟩ : ∃ z, n = z + 1 := ⟨n - 1, by simp at hn; omega⟩
    simp only [List.length_nil, Nat.add_zero] at hm hk
    rw [q_X10_fade_6, gIx_e (x := ((b : Int) + 21) + (p : Int)) (n := b + 21 + p) (by omega) (by omega), hm]
    refine ⟨gU M 82 (b + 21 + p) (c : Int), by simp (disch := omega) only [gInb_t, gLt_t, gLt_f, gEq_t, gEq_f, gIx_nat, gIx_id, gIf, cond_true, cond_false, gCi_some, gCv_some, gCr_some, gB01_0, gB01_1, gBi_01, gU_same, gU_off, gW_id, Int.toNat_natCast, Int.toNat_add, Int.toNat_mul, Int.reduceToNat, Nat.add_zero, Int.add_zero], ?_, ?_, ?_, ?_⟩
    · rw [gU_same]; rfl
    · intro j hj
      rw [gU_off _ _ (by omega)]
    · intro j hj; simp [fadeL] at hj
    · intro q i hq
      rw [gU_off _ _ (by omega)]
  | cons x r ih =>
    intro k c n M hck hk hn hm hw hr
    obtain ⟨n, rfl⟩ : ∃ z, n = z + 1 := ⟨n - 1, by simp at hn; omega⟩
    simp only [List.length_cons] at hm hk hn
    have hx := hw x (by simp)
    have h0 := hr 0 (by simp)
    simp only [Nat.add_zero, List.getD_cons_zero] at h0
    have hw2 : ∀ y ∈ r, 1 ≤ y ∧ y ≤ 99 := fun y hy => hw y (by simp [hy])
    have hr2 : ∀ j, j < r.length → M 82 (b + 3 * p + (k + 1) + j) = r.getD j 0 := fun j hj => by
      have := hr (j + 1) (by simp; omega)
      simp only [List.getD_cons_succ] at this
      rw [show b + 3 * p + (k + 1) + j = b + 3 * p + k + (j + 1) by omega]
      exact this
    rw [q_X10_fade_6, gIx_e (x := ((b : Int) + 21) + (p : Int)) (n := b + 21 + p) (by omega) (by omega), hm, gIx_e (x := (((b : Int) + 0) + (3 * (p : Int))) + (k : Int)) (n := b + 3 * p + k) (by omega) (by omega), gIx_e (x := (((b : Int) + 0) + (3 * (p : Int))) + (c : Int)) (n := b + 3 * p + c) (by omega) (by omega), h0, show (k : Int) + 1 = ((k + 1 : Nat) : Int) by omega]
    by_cases hf : 0 < x - by'
    · have hM1 : ∀ j, j < r.length → (gU M 82 (b + 3 * p + c) (x - by')) 82 (b + 3 * p + (k + 1) + j) = r.getD j 0 := fun j hj => by
        rw [gU_off _ _ (by omega)]; exact hr2 j hj
      obtain ⟨M', e1, e2, e3, e4, e5⟩ := ih (k + 1) (c + 1) n (gU M 82 (b + 3 * p + c) (x - by')) (by omega) (by omega) (by omega) (by rw [gU_off _ _ (by omega), hm]; congr 1; omega) hw2 hM1
      refine ⟨M', ?_, ?_, ?_, ?_, ?_⟩
      · simp (disch := omega) only [gInb_t, gLt_t, gLt_f, gEq_t, gEq_f, gIx_nat, gIx_id, gIf, cond_true, cond_false, gCi_some, gCv_some, gCr_some, gB01_0, gB01_1, gBi_01, gU_same, gU_off, gW_id, Int.toNat_natCast, Int.toNat_add, Int.toNat_mul, Int.reduceToNat, Nat.add_zero, Int.add_zero]
        rw [← e1]
        rfl
      · rw [e2]; simp only [fadeL, if_pos hf, List.length_cons]; congr 1; omega
      · intro j hj
        rw [e3 j (by omega), gU_off _ _ (by omega)]
      · intro j hj
        simp only [fadeL, if_pos hf, List.length_cons] at hj ⊢
        match j with
        | 0 =>
          rw [Nat.add_zero, e3 c (by omega), gU_same]
          rfl
        | j + 1 =>
          rw [show b + 3 * p + c + (j + 1) = b + 3 * p + (c + 1) + j by omega, e4 j (by omega)]
          rfl
      · intro q i hq
        rw [e5 q i hq, gU_off _ _ (by omega)]
    · obtain ⟨M', e1, e2, e3, e4, e5⟩ := ih (k + 1) c n M (by omega) (by omega) (by omega) (by rw [hm]; congr 1; omega) hw2 hr2
      refine ⟨M', ?_, ?_, e3, ?_, e5⟩
      · simp (disch := omega) only [gInb_t, gLt_t, gLt_f, gEq_t, gEq_f, gIx_nat, gIx_id, gIf, cond_true, cond_false, gCi_some, gCv_some, gCr_some, gB01_0, gB01_1, gBi_01, gU_same, gU_off, gW_id, Int.toNat_natCast, Int.toNat_add, Int.toNat_mul, Int.reduceToNat, Nat.add_zero, Int.add_zero]
        rw [← e1]
      · rw [e2]; simp only [fadeL, if_neg hf]
      · simp only [fadeL, if_neg hf]
        exact e4
theorem s_mfade (N d b p : Nat) (by' : Int) (l : List Int) (M : gM) (hN : 4 ≤ N) (hb : b ≤ 414) (hp : p < 7) (hy : 0 ≤ by' ∧ by' ≤ 1000) (hl : l.length ≤ 3) (hm : M 82 (b + 21 + p) = ((l.length : Nat) : Int)) (hw : ∀ x ∈ l, 1 ≤ x ∧ x ≤ 99) (hr : gAtL M 82 (b + 3 * p) l) :
    ∃ M', gEv N (d + 1) 123 [.inr (.inr 82), .inl (b : Int), .inl (p : Int), .inl by'] M = some (M', none) ∧ M' 82 (b + 21 + p) = (((fadeL by' l).length : Nat) : Int) ∧ gAtL M' 82 (b + 3 * p) (fadeL by' l) ∧ (∀ q i, ¬ (q = 82 ∧ (i = b + 21 + p ∨ (b + 3 * p ≤ i ∧ i < b + 3 * p + 3))) → M' q i = M q i) := by
  obtain ⟨M', e1, e2, e3, e4, e5⟩ := l_mfade (gEv N d) b p by' hb hp hy l 0 0 N M (by omega) (by omega) (by omega) (by rw [hm]; congr 1; omega) hw hr
  refine ⟨M', ?_, ?_, e4, e5⟩
  · rw [q_X10_fade]; exact e1
  · rw [e2]; congr 1; omega
