-- 72: who goes ahead of whom, by sets; one pair more; the next order
def upH (H : Nat → Nat) (x v : Nat) : Nat → Nat := fun y => if y = x then v else H y
def hm (A B : Nat → Nat) : Nat → (Nat → Nat)
  | 0 => fun _ => 0
  | k + 1 => upH (hm A B k) (B k) (ob (hm A B k (B k)) (A k))
theorem hm_lt (A B : Nat → Nat) : ∀ (c : Nat), (∀ k, k < c → A k < 7 ∧ B k < 7) → ∀ x, hm A B c x < 128
  | 0, _, x => by simp [hm]
  | k + 1, h, x => by
    have ih := hm_lt A B k (fun j hj => h j (by omega))
    simp only [hm, upH]
    split
    · exact ob_lt _ (ih _) _ (h k (by omega)).1
    · exact ih x
theorem hm_bit (A B : Nat → Nat) : ∀ (c : Nat), (∀ k, k < c → A k < 7 ∧ B k < 7) → ∀ x y, y < 7 → ((hm A B c x).testBit y = true ↔ ∃ k, k < c ∧ B k = x ∧ A k = y)
  | 0, _, x, y, hy => by
    simp [hm]
  | k + 1, h, x, y, hy => by
    have ih := hm_bit A B k (fun j hj => h j (by omega))
    have hl := hm_lt A B k (fun j hj => h j (by omega))
    simp only [hm, upH]
    by_cases hx : x = B k
    · rw [if_pos hx, ob_bit _ (hl _) _ (h k (by omega)).1 y hy, Bool.or_eq_true, ih (B k) y hy]
      constructor
      · rintro (⟨j, h1, h2, h3⟩ | h1)
        · exact ⟨j, by omega, h2.trans hx.symm, h3⟩
        · exact ⟨k, by omega, hx.symm, (by simpa using h1 : y = A k).symm⟩
      · rintro ⟨j, h1, h2, h3⟩
        by_cases hj : j = k
        · right
          subst hj
          simp [h3]
        · left
          exact ⟨j, by omega, h2.trans hx, h3⟩
    · rw [if_neg hx, ih x y hy]
      constructor
      · rintro ⟨j, h1, h2, h3⟩
        exact ⟨j, by omega, h2, h3⟩
      · rintro ⟨j, h1, h2, h3⟩
        have hj : j ≠ k := fun e => by subst e; exact hx h2.symm
        exact ⟨j, by omega, h2, h3⟩
theorem qn_zero (A B : Nat → Nat) (c t x : Nat) (h : ∀ k, k < c → A k < 7 ∧ B k < 7) : qn A B c t x = 0 ↔ hm A B c x &&& t = 0 := by
  unfold qn
  rw [cB_zero, and_zero (hm_lt A B c h x)]
  constructor
  · intro H y hy ⟨h1, h2⟩
    obtain ⟨k, k1, k2, k3⟩ := (hm_bit A B c h x y hy).mp h1
    have := H k (by omega) (by omega)
    rw [k3, h2, k2] at this
    simp at this
  · intro H j _ hj
    cases hq : ((B j == x) && t.testBit (A j)) with
    | false => rfl
    | true =>
      simp at hq
      exact absurd ⟨(hm_bit A B c h x (A j) (h j (by omega)).1).mpr ⟨j, by omega, hq.1, rfl⟩, hq.2⟩ (H (A j) (h j (by omega)).1)
theorem gd_cs (A B : Nat → Nat) (c : Nat) (h : ∀ k, k < c → A k < 7 ∧ B k < 7) : ∀ (l : List Nat) (s : Nat), gdM (hm A B c) s l = decide (cs A B c s l = 0)
  | [], s => by simp [gdM, cs]
  | x :: r, s => by
    simp only [gdM]
    rw [gd_cs A B c h r (rs s x)]
    have := qn_zero A B c (rs s x) x h
    by_cases h1 : hm A B c x &&& rs s x = 0
    · have h2 := this.mpr h1
      have h4 : (cs A B c s (x :: r) = 0) ↔ (cs A B c (rs s x) r = 0) := by simp only [cs]; omega
      have h5 : decide (cs A B c s (x :: r) = 0) = decide (cs A B c (rs s x) r = 0) := decide_eq_decide.mpr h4
      rw [h1, h5]
      simp
    · have h2 : qn A B c (rs s x) x ≠ 0 := fun q => h1 (this.mp q)
      have h3 : (hm A B c x &&& rs s x == 0) = false := by simpa using h1
      have h4 : ¬ (cs A B c s (x :: r) = 0) := by simp only [cs]; omega
      rw [h3, decide_eq_false h4]
      rfl
theorem gd_no (H : Nat → Nat) (a b : Nat) (ha : a < 7) (hH : ∀ x, H x < 128) : ∀ (k s : Nat), s < 128 → (els s).length = k → s.testBit a = false → ∀ l, l ∈ plM k s → gdM (upH H b (ob (H b) a)) s l = gdM H s l
  | 0, s, hs, hk, hsa, l, hl => by
    simp only [plM, List.mem_singleton] at hl
    subst hl
    rfl
  | k + 1, s, hs, hk, hsa, l, hl => by
    simp only [plM, List.mem_flatMap, List.mem_map] at hl
    obtain ⟨x, hx, r, hr, rfl⟩ := hl
    obtain ⟨hx7, hxs⟩ := (els_mem s x).mp hx
    have h1 := els_rs s hs x hx7 hxs
    have h2 := rs_lt s hs x hx7 hxs
    have h3 : (rs s x).testBit a = false := by rw [rs_bit s hs x hx7 a ha, hsa]; rfl
    simp only [gdM]
    rw [gd_no H a b ha hH k (rs s x) (by omega) (by omega) h3 r hr]
    congr 1
    unfold upH
    by_cases hxb : x = b
    · subst hxb
      rw [if_pos rfl]
      have e : (ob (H x) a &&& rs s x = 0) ↔ (H x &&& rs s x = 0) := by
        rw [and_zero (ob_lt _ (hH x) a ha), and_zero (hH x)]
        constructor
        · intro q y hy ⟨y1, y2⟩
          refine q y hy ⟨?_, y2⟩
          rw [ob_bit _ (hH x) a ha y hy, y1]
          rfl
        · intro q y hy ⟨y1, y2⟩
          rw [ob_bit _ (hH x) a ha y hy] at y1
          by_cases hya : y = a
          · subst hya
            rw [h3] at y2
            cases y2
          · refine q y hy ⟨?_, y2⟩
            simpa [hya] using y1
      by_cases q : H x &&& rs s x = 0
      · rw [q, e.mpr q]
      · have q2 : ¬ (ob (H x) a &&& rs s x = 0) := fun w => q (e.mp w)
        have q3 : (H x &&& rs s x == 0) = false := by simpa using q
        have q4 : (ob (H x) a &&& rs s x == 0) = false := by simpa using q2
        rw [q3, q4]
    · rw [if_neg hxb]
theorem gd_one (H : Nat → Nat) (a b : Nat) (ha : a < 7) (hb : b < 7) (hab : a ≠ b) (hH : ∀ x, H x < 128) : ∀ (k s : Nat), s < 128 → (els s).length = k → s.testBit a = true → s.testBit b = true → ∀ l, l ∈ plM k s → gdM (upH H b (ob (H b) a)) s l = (gdM H s l && decide (posL l a < posL l b))
  | 0, s, hs, hk, hsa, hsb, l, hl => by
    have : s = 0 := els_zero s hs hk
    subst this
    simp at hsa
  | k + 1, s, hs, hk, hsa, hsb, l, hl => by
    simp only [plM, List.mem_flatMap, List.mem_map] at hl
    obtain ⟨x, hx, r, hr, rfl⟩ := hl
    obtain ⟨hx7, hxs⟩ := (els_mem s x).mp hx
    have h1 := els_rs s hs x hx7 hxs
    have h2 := rs_lt s hs x hx7 hxs
    by_cases hxb : x = b
    · subst hxb
      have hd : decide (posL (x :: r) a < posL (x :: r) x) = false := decide_eq_false (by simp [posL])
      rw [hd, Bool.and_false]
      simp only [gdM, upH, if_true]
      have : ¬ (ob (H x) a &&& rs s x = 0) := fun q => by
        refine (and_zero (ob_lt _ (hH x) a ha)).mp q a ha ⟨?_, ?_⟩
        · rw [ob_bit _ (hH x) a ha a ha]; simp
        · rw [rs_bit s hs x hx7 a ha, hsa]; simp [hab]
      have q4 : (ob (H x) a &&& rs s x == 0) = false := by simpa using this
      rw [q4, Bool.false_and]
    · by_cases hxa : x = a
      · subst hxa
        have hd : decide (posL (x :: r) x < posL (x :: r) b) = true := decide_eq_true (by simp [posL, hxb])
        rw [hd, Bool.and_true]
        have h3 : (rs s x).testBit x = false := by rw [rs_bit s hs x hx7 x hx7]; simp
        simp only [gdM]
        rw [gd_no H x b hx7 hH k (rs s x) (by omega) (by omega) h3 r hr]
        simp only [upH, if_neg hxb]
      · have hd : decide (posL (x :: r) a < posL (x :: r) b) = decide (posL r a < posL r b) := decide_eq_decide.mpr (by simp only [posL]; rw [if_neg hxa, if_neg hxb]; omega)
        rw [hd]
        simp only [gdM]
        rw [gd_one H a b ha hb hab hH k (rs s x) (by omega) (by omega) (by rw [rs_bit s hs x hx7 a ha, hsa]; simp; exact fun q => hxa q.symm) (by rw [rs_bit s hs x hx7 b hb, hsb]; simp; exact fun q => hxb q.symm) r hr]
        simp only [upH, if_neg hxb]
        rw [Bool.and_assoc]
/-- the next order, as the model looks for it -/
def nk (f : Nat → Nat) : Nat → Option Nat
  | 0 => none
  | j + 1 => if f (j + 1) < f j then nk f j else some j
def nq (f : Nat → Nat) (v : Nat) : Nat → Nat
  | 0 => 0
  | q + 1 => if f q < v then nq f v q else q
def swp (f : Nat → Nat) (a b : Nat) : Nat → Nat := fun i => if i = b then f a else if i = a then f b else f i
def rv (f : Nat → Nat) (a b : Nat) : Nat → (Nat → Nat)
  | 0 => f
  | m + 1 => if a < b then rv (swp f a b) (a + 1) (b - 1) m else f
def nxF (n : Nat) (f : Nat → Nat) : Option (Nat → Nat) := match nk f (n - 1) with
  | none => none
  | some k => some (rv (swp f k (nq f (f k) n)) (k + 1) (n - 1) 7)
def nxL (n : Nat) (l : List Nat) : Option (List Nat) := (nxF n (fun i => l.getD i 0)).map (fun g => (List.range n).map g)
def chB (n : Nat) : List (List Nat) → Bool
  | [] => false
  | [l] => (nxL n l).isNone
  | l :: l2 :: L => (nxL n l == some l2) && chB n (l2 :: L)
