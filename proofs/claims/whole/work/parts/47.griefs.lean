-- 47: the class's Griefs
theorem gCp_in {M : gM} {q sp p dp n r k : Nat} (h : r = p) (h1 : dp ≤ k) (h2 : k < dp + n) : gCp M q sp p dp n r k = M q (sp + (k - dp)) := by
  simp only [gCp]; rw [if_pos ⟨h, h1, h2⟩]
theorem gCp_off {M : gM} {q sp p dp n r k : Nat} (h : ¬ (r = p ∧ dp ≤ k ∧ k < dp + n)) : gCp M q sp p dp n r k = M r k := by
  simp only [gCp]; rw [if_neg h]
/-- the class's griefs at a place; the model's, in its row from b on; what they may be -/
def kG (M : gM) (n g : Nat) (t : Int) (F : Nat → List Int) : Prop := M g 0 = t ∧ ∀ p, p < n → M (g + 1) p = (((F p).length : Nat) : Int) ∧ gAtL M (g + 2) (3 * p) (F p)
def kH (M : gM) (n b : Nat) (t : Int) (F : Nat → List Int) : Prop := M 82 (b + 28) = t ∧ ∀ p, p < n → M 82 (b + 21 + p) = (((F p).length : Nat) : Int) ∧ gAtL M 82 (b + 3 * p) (F p)
def kOkL (l : List Int) : Prop := l.length ≤ 3 ∧ ∀ x ∈ l, 1 ≤ x ∧ x ≤ 99
def kOk (n : Nat) (t : Int) (F : Nat → List Int) : Prop := 0 ≤ t ∧ t ≤ 999 ∧ ∀ p, p < n → kOkL (F p)
def kUp (F : Nat → List Int) (p : Nat) (l : List Int) : Nat → List Int := fun q => if q = p then l else F q
theorem kUp_same (F : Nat → List Int) (p : Nat) (l : List Int) : kUp F p l p = l := by simp [kUp]
theorem kUp_off (F : Nat → List Int) {p q : Nat} (l : List Int) (h : q ≠ p) : kUp F p l q = F q := by simp [kUp, h]
theorem gPl_far {g h : Nat} (hg : gPl g) (hh : gPl h) (hn : g ≠ h) : g + 3 ≤ h ∨ h + 3 ≤ g := by
  unfold gPl at hg hh
  omega
theorem gPl_no {g : Nat} (hg : gPl g) : g < 53 ∧ 8 ≤ g ∧ (g + 2 < 14 ∨ 22 ≤ g) := by
  unfold gPl at hg
  omega
theorem kG_fr {M M' : gM} {n g : Nat} {t : Int} {F : Nat → List Int} (h : kG M n g t F) (hf : ∀ p, p < n → kOkL (F p)) (hn : n ≤ 7) (e : ∀ q i, (q = g ∧ i = 0) ∨ (q = g + 1 ∧ i < 7) ∨ (q = g + 2 ∧ i < 21) → M' q i = M q i) : kG M' n g t F := by
  refine ⟨(e g 0 (by omega)).trans h.1, fun p hp => ⟨(e (g + 1) p (by omega)).trans (h.2 p hp).1, fun j hj => ?_⟩⟩
  have := (hf p hp).1
  rw [e (g + 2) (3 * p + j) (by omega)]
  exact (h.2 p hp).2 j hj
theorem kH_fr {M M' : gM} {n b : Nat} {t : Int} {F : Nat → List Int} (h : kH M n b t F) (hf : ∀ p, p < n → kOkL (F p)) (hn : n ≤ 7) (e : ∀ i, b ≤ i → i < b + 29 → M' 82 i = M 82 i) : kH M' n b t F := by
  refine ⟨(e _ (by omega) (by omega)).trans h.1, fun p hp => ⟨(e _ (by omega) (by omega)).trans (h.2 p hp).1, fun j hj => ?_⟩⟩
  have := (hf p hp).1
  rw [e (b + 3 * p + j) (by omega) (by omega)]
  exact (h.2 p hp).2 j hj
theorem s_gappend (N d g p c : Nat) (w : Int) (M : gM) (hg : gPl g) (hp : p < 7) (hc : M (g + 1) p = (c : Int)) (h3 : c < 3) : gEv N (d + 1) 9 [.inr (.inr (g + 1)), .inl (p : Int), .inl w] M = some (gU (gU M (g + 2) (3 * p + c) w) (g + 1) p ((c : Int) + 1), none) := by
  rw [q_X1_append _ _ _ _ _ _ hg, gIx_e (x := (p : Int)) (n := p) (by omega) (by omega), hc, gIx_e (x := (p : Int) * 3 + (c : Int)) (n := 3 * p + c) (by omega) (by omega)]
  simp (disch := omega) only [gInb_t, gLt_t, gLt_f, gEq_t, gEq_f, gIx_nat, gIx_id, gIf, cond_true, cond_false, gCi_some, gCv_some, gCr_some, gB01_0, gB01_1, gBi_01, gU_same, gU_off, gW_id, Int.toNat_natCast, Int.toNat_add, Int.toNat_mul, Int.reduceToNat, Nat.add_zero, Int.add_zero]
  rw [hc]
theorem s_gbecome (N d g h : Nat) (M : gM) (hg : gPl g) (hh : gPl h) : gEv N (d + 1) 7 [.inr (.inr (g + 1)), .inr (.inr (h + 1))] M = some (gCp (gCp (gU M g 0 (M h 0)) (h + 1) 0 (g + 1) 0 7) (h + 2) 0 (g + 2) 0 21, none) := by
  rw [q_X1_become _ _ _ _ _ hg hh]
  have e0 : gW 0 = 0 := gW_id (by omega) (by omega)
  have e7 : gW 7 = 7 := gW_id (by omega) (by omega)
  have e21 : gW 21 = 21 := gW_id (by omega) (by omega)
  rw [e0, e7, e21, gIx_e (x := 0) (n := 0) rfl (by omega), gIx_e (x := 7) (n := 7) rfl (by omega), gIx_e (x := 21) (n := 21) rfl (by omega)]
  rfl
theorem s_gbecome_fr {M : gM} {g h : Nat} : ∀ q i, ¬ (q = g ∨ q = g + 1 ∨ q = g + 2) → gCp (gCp (gU M g 0 (M h 0)) (h + 1) 0 (g + 1) 0 7) (h + 2) 0 (g + 2) 0 21 q i = M q i := by
  intro q i hq
  rw [gCp_off (by omega), gCp_off (by omega), gU_off _ _ (by omega)]
theorem s_gbecome_G {M : gM} {n g h : Nat} {t : Int} {F : Nat → List Int} (hg : gPl g) (hh : gPl h) (hn : g ≠ h) (h7 : n ≤ 7) (hf : ∀ p, p < n → kOkL (F p)) (hG : kG M n h t F) : kG (gCp (gCp (gU M g 0 (M h 0)) (h + 1) 0 (g + 1) 0 7) (h + 2) 0 (g + 2) 0 21) n g t F := by
  have hd := gPl_far hg hh hn
  refine ⟨?_, fun p hp => ⟨?_, fun j hj => ?_⟩⟩
  · rw [gCp_off (by omega), gCp_off (by omega), gU_same]; exact hG.1
  · rw [gCp_off (by omega), gCp_in rfl (by omega) (by omega), gU_off _ _ (by omega), Nat.zero_add, Nat.sub_zero]
    exact (hG.2 p hp).1
  · have := (hf p hp).1
    rw [gCp_in rfl (by omega) (by omega), gCp_off (by omega), gU_off _ _ (by omega), Nat.zero_add, Nat.sub_zero]
    exact (hG.2 p hp).2 j hj
/-- the class's fade -/
theorem l_xfade (N d g p m : Nat) (by' : Int) (hg : gPl g) (hp : p < 7) (hy : 0 ≤ by' ∧ by' ≤ 1000) (hm3 : m ≤ 3) : ∀ (r : List Int) (k c n : Nat) (M : gM), c ≤ k → k + r.length = m → r.length < n → M (g + 1) p = (c : Int) → (∀ x ∈ r, 1 ≤ x ∧ x ≤ 99) → (∀ j, j < r.length → M (g + 2) (3 * p + k + j) = r.getD j 0) →
    ∃ M', L_X1_fade_17 (gEv N (d + 1)) n g (p : Int) by' (m : Int) (k : Int) M = some (M', none) ∧ M' (g + 1) p = ((c + (fadeL by' r).length : Nat) : Int) ∧ (∀ j, j < c → M' (g + 2) (3 * p + j) = M (g + 2) (3 * p + j)) ∧ (∀ j, j < (fadeL by' r).length → M' (g + 2) (3 * p + c + j) = (fadeL by' r).getD j 0) ∧ (∀ q i, ¬ ((q = g + 1 ∧ i = p) ∨ (q = g + 2 ∧ 3 * p ≤ i ∧ i < 3 * p + 3)) → M' q i = M q i) := by
  intro r
  induction r with
  | nil =>
    intro k c n M hck hk hn hm hw hr
    obtain ⟨n, rfl⟩ : ∃ z, n = z + 1 := ⟨n - 1, by simp at hn; omega⟩
    simp only [List.length_nil, Nat.add_zero] at hk
    rw [q_X1_fade_17 _ _ _ _ _ _ _ _ hg]
    refine ⟨M, by simp (disch := omega) only [gInb_t, gLt_t, gLt_f, gEq_t, gEq_f, gIx_nat, gIx_id, gIf, cond_true, cond_false, gCi_some, gCv_some, gCr_some, gB01_0, gB01_1, gBi_01, gU_same, gU_off, gW_id, Int.toNat_natCast, Int.toNat_add, Int.toNat_mul, Int.reduceToNat, Nat.add_zero, Int.add_zero], ?_, fun _ _ => rfl, ?_, fun _ _ _ => rfl⟩
    · rw [hm]; rfl
    · intro j hj; simp [fadeL] at hj
  | cons x r ih =>
    intro k c n M hck hk hn hm hw hr
    obtain ⟨n, rfl⟩ : ∃ z, n = z + 1 := ⟨n - 1, by simp at hn; omega⟩
    simp only [List.length_cons] at hk hn
    have hx := hw x (by simp)
    have h0 := hr 0 (by simp)
    simp only [Nat.add_zero, List.getD_cons_zero] at h0
    have hw2 : ∀ y ∈ r, 1 ≤ y ∧ y ≤ 99 := fun y hy => hw y (by simp [hy])
    have hr2 : ∀ j, j < r.length → M (g + 2) (3 * p + (k + 1) + j) = r.getD j 0 := fun j hj => by
      have := hr (j + 1) (by simp; omega)
      simp only [List.getD_cons_succ] at this
      rw [show 3 * p + (k + 1) + j = 3 * p + k + (j + 1) by omega]
      exact this
    rw [q_X1_fade_17 _ _ _ _ _ _ _ _ hg, s_weight N d g p k M hg hp (by omega), h0, show (k : Int) + 1 = ((k + 1 : Nat) : Int) by omega]
    by_cases hf : 0 < x - by'
    · have hM1 : ∀ j, j < r.length → (gU (gU M (g + 2) (3 * p + c) (x - by')) (g + 1) p ((c : Int) + 1)) (g + 2) (3 * p + (k + 1) + j) = r.getD j 0 := fun j hj => by
        rw [gU_off _ _ (by omega), gU_off _ _ (by omega)]; exact hr2 j hj
      obtain ⟨M', e1, e2, e3, e4, e5⟩ := ih (k + 1) (c + 1) n (gU (gU M (g + 2) (3 * p + c) (x - by')) (g + 1) p ((c : Int) + 1)) (by omega) (by omega) (by omega) (by rw [gU_same]; rfl) hw2 hM1
      refine ⟨M', ?_, ?_, ?_, ?_, ?_⟩
      · simp (disch := omega) only [gInb_t, gLt_t, gLt_f, gEq_t, gEq_f, gIx_nat, gIx_id, gIf, cond_true, cond_false, gCi_some, gCv_some, gCr_some, gB01_0, gB01_1, gBi_01, gU_same, gU_off, gW_id, Int.toNat_natCast, Int.toNat_add, Int.toNat_mul, Int.reduceToNat, Nat.add_zero, Int.add_zero]
        rw [s_gappend N d g p c _ M hg hp hm (by omega), gCv_some, ← e1]
      · rw [e2]; simp only [fadeL, if_pos hf, List.length_cons]; congr 1; omega
      · intro j hj
        rw [e3 j (by omega), gU_off _ _ (by omega), gU_off _ _ (by omega)]
      · intro j hj
        simp only [fadeL, if_pos hf, List.length_cons] at hj ⊢
        match j with
        | 0 =>
          rw [show 3 * p + c + 0 = 3 * p + c from rfl, e3 c (by omega), gU_off _ _ (by omega), gU_same]
          rfl
        | j + 1 =>
          rw [show 3 * p + c + (j + 1) = 3 * p + (c + 1) + j by omega, e4 j (by omega)]
          rfl
      · intro q i hq
        rw [e5 q i hq, gU_off _ _ (by omega), gU_off _ _ (by omega)]
    · obtain ⟨M', e1, e2, e3, e4, e5⟩ := ih (k + 1) c n M (by omega) (by omega) (by omega) hm hw2 hr2
      refine ⟨M', ?_, ?_, e3, ?_, e5⟩
      · simp (disch := omega) only [gInb_t, gLt_t, gLt_f, gEq_t, gEq_f, gIx_nat, gIx_id, gIf, cond_true, cond_false, gCi_some, gCv_some, gCr_some, gB01_0, gB01_1, gBi_01, gU_same, gU_off, gW_id, Int.toNat_natCast, Int.toNat_add, Int.toNat_mul, Int.reduceToNat, Nat.add_zero, Int.add_zero]
        rw [← e1]
      · rw [e2]; simp only [fadeL, if_neg hf]
      · simp only [fadeL, if_neg hf]
        exact e4
theorem s_xfade (N d g p : Nat) (by' : Int) (l : List Int) (M : gM) (hN : 4 ≤ N) (hg : gPl g) (hp : p < 7) (hy : 0 ≤ by' ∧ by' ≤ 1000) (hl : kOkL l) (hm : M (g + 1) p = ((l.length : Nat) : Int)) (hr : gAtL M (g + 2) (3 * p) l) :
    ∃ M', gEv N (d + 2) 11 [.inr (.inr (g + 1)), .inl (p : Int), .inl by'] M = some (M', none) ∧ M' (g + 1) p = (((fadeL by' l).length : Nat) : Int) ∧ gAtL M' (g + 2) (3 * p) (fadeL by' l) ∧ (∀ q i, ¬ ((q = g + 1 ∧ i = p) ∨ (q = g + 2 ∧ 3 * p ≤ i ∧ i < 3 * p + 3)) → M' q i = M q i) := by
  have hl3 := hl.1
  obtain ⟨M', e1, e2, e3, e4, e5⟩ := l_xfade N d g p l.length by' hg hp hy hl.1 l 0 0 N (gU M (g + 1) p 0) (by omega) (by omega) (by omega) (by rw [gU_same]; rfl) hl.2 (fun j hj => by
    rw [gU_off _ _ (by omega)]; exact hr j hj)
  refine ⟨M', ?_, ?_, e4, ?_⟩
  · rw [q_X1_fade _ _ _ _ _ _ hg, gIx_e (x := (p : Int)) (n := p) (by omega) (by omega), hm]
    simp (disch := omega) only [gInb_t, gLt_t, gLt_f, gEq_t, gEq_f, gIx_nat, gIx_id, gIf, cond_true, cond_false, gCi_some, gCv_some, gCr_some, gB01_0, gB01_1, gBi_01, gU_same, gU_off, gW_id, Int.toNat_natCast, Int.toNat_add, Int.toNat_mul, Int.reduceToNat, Nat.add_zero, Int.add_zero]
    exact e1
  · rw [e2]; congr 1; omega
  · intro q i hq
    rw [e5 q i hq, gU_off _ _ (by omega)]
