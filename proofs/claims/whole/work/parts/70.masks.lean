-- 70: sets of people as numbers
def rs (s x : Nat) : Nat := cond (s.testBit x) (s - 2 ^ x) s
def ob (h a : Nat) : Nat := cond (h.testBit a) h (h + 2 ^ a)
def els (s : Nat) : List Nat := (List.range 7).filter (fun x => s.testBit x)
theorem rs_bit : ∀ s, s < 128 → ∀ x, x < 7 → ∀ y, y < 7 → (rs s x).testBit y = (s.testBit y && !(y == x)) := by decide +kernel
theorem rs_lt : ∀ s, s < 128 → ∀ x, x < 7 → s.testBit x = true → rs s x < s := by decide +kernel
theorem rs_le : ∀ s, s < 128 → ∀ x, x < 7 → rs s x ≤ s := by decide +kernel
theorem ob_bit : ∀ s, s < 128 → ∀ x, x < 7 → ∀ y, y < 7 → (ob s x).testBit y = (s.testBit y || y == x) := by decide +kernel
theorem ob_lt : ∀ s, s < 128 → ∀ x, x < 7 → ob s x < 128 := by decide +kernel
theorem els_rs : ∀ s, s < 128 → ∀ x, x < 7 → s.testBit x = true → (els (rs s x)).length + 1 = (els s).length := by decide +kernel
theorem els_zero : ∀ s, s < 128 → (els s).length = 0 → s = 0 := by decide +kernel
theorem els_all : ∀ n, n ≤ 7 → (els (2 ^ n - 1)).length = n := by decide +kernel
theorem all_bit : ∀ n, n ≤ 7 → ∀ y, y < 7 → (2 ^ n - 1).testBit y = decide (y < n) := by decide +kernel
theorem m_bit : ∀ s, s < 128 → ∀ x, x < 7 → gAnd (gShr ((s : Nat) : Int) ((x : Nat) : Int)) 1 = bI (s.testBit x) := by decide +kernel
theorem m_rs : ∀ s, s < 128 → ∀ x, x < 7 → gAnd ((s : Nat) : Int) (gXor (gShl 1 ((x : Nat) : Int)) (-1)) = ((rs s x : Nat) : Int) := by decide +kernel
theorem m_all : ∀ n, n ≤ 7 → gShl 1 ((n : Nat) : Int) - 1 = ((2 ^ n - 1 : Nat) : Int) := by decide +kernel
theorem m_ob : ∀ s, s < 128 → ∀ x, x < 7 → gOr ((s : Nat) : Int) (gShl 1 ((x : Nat) : Int)) = ((ob s x : Nat) : Int) := by decide +kernel
theorem m_and : ∀ h, h < 128 → ∀ s, s < 128 → gAnd ((h : Nat) : Int) ((s : Nat) : Int) = ((h &&& s : Nat) : Int) := by decide +kernel
theorem and_zero {h t : Nat} (hh : h < 128) : h &&& t = 0 ↔ ∀ y, y < 7 → ¬ (h.testBit y = true ∧ t.testBit y = true) := by
  constructor
  · intro e y hy ⟨h1, h2⟩
    have := Nat.testBit_and h t y
    rw [e, h1, h2] at this
    simp at this
  · intro H
    apply Nat.eq_of_testBit_eq
    intro i
    rw [Nat.testBit_and, Nat.zero_testBit]
    by_cases hi : i < 7
    · have := H i hi
      cases h1 : h.testBit i <;> cases h2 : t.testBit i <;> simp_all
    · have : h.testBit i = false := Nat.testBit_lt_two_pow (Nat.lt_of_lt_of_le hh (by
        have : 2 ^ 7 ≤ 2 ^ i := Nat.pow_le_pow_right (by omega) (by omega)
        omega))
      rw [this]
      rfl
theorem els_mem (s x : Nat) : x ∈ els s ↔ x < 7 ∧ s.testBit x = true := by
  unfold els
  simp
def plM : Nat → Nat → List (List Nat)
  | 0, _ => [[]]
  | k + 1, s => (els s).flatMap (fun x => (plM k (rs s x)).map (fun l => x :: l))
theorem plM_mem : ∀ (k s : Nat), s < 128 → (els s).length = k → ∀ l, l ∈ plM k s → (∀ a, a ∈ l ↔ a < 7 ∧ s.testBit a = true) ∧ l.Nodup ∧ l.length = k
  | 0, s, hs, hk, l, hl => by
    have : s = 0 := els_zero s hs hk
    subst this
    simp only [plM, List.mem_singleton] at hl
    subst hl
    simp
  | k + 1, s, hs, hk, l, hl => by
    simp only [plM, List.mem_flatMap, List.mem_map] at hl
    obtain ⟨x, hx, r, hr, rfl⟩ := hl
    obtain ⟨hx7, hxs⟩ := (els_mem s x).mp hx
    have h1 := els_rs s hs x hx7 hxs
    have h2 := rs_lt s hs x hx7 hxs
    obtain ⟨g1, g2, g3⟩ := plM_mem k (rs s x) (by omega) (by omega) r hr
    have hxr : x ∉ r := fun q => by
      have := (g1 x).mp q
      rw [rs_bit s hs x hx7 x hx7] at this
      simp at this
    refine ⟨fun a => ?_, List.nodup_cons.mpr ⟨hxr, g2⟩, by simp [g3]⟩
    rw [List.mem_cons, g1 a]
    constructor
    · rintro (rfl | ⟨h3, h4⟩)
      · exact ⟨hx7, hxs⟩
      · rw [rs_bit s hs x hx7 a h3] at h4
        simp at h4
        exact ⟨h3, h4.1⟩
    · rintro ⟨h3, h4⟩
      by_cases hax : a = x
      · exact Or.inl hax
      · right
        refine ⟨h3, ?_⟩
        rw [rs_bit s hs x hx7 a h3, h4]
        simp [hax]
/-- of how many pairs x is behind one of the set -/
def qn (A B : Nat → Nat) (c : Nat) (t x : Nat) : Nat := cB (fun k => (B k == x) && t.testBit (A k)) 0 c
/-- how many pairs an order of the set breaks -/
def cs (A B : Nat → Nat) (c : Nat) : Nat → List Nat → Nat
  | _, [] => 0
  | s, x :: r => qn A B c (rs s x) x + cs A B c (rs s x) r
def posL : List Nat → Nat → Nat
  | [], _ => 0
  | x :: r, a => if x = a then 0 else posL r a + 1
theorem cB_add (f g : Nat → Bool) (h : Nat → Bool) : ∀ (r k : Nat), (∀ j, k ≤ j → j < k + r → (cond (h j) 1 0 : Nat) = cond (f j) 1 0 + cond (g j) 1 0) → cB h k r = cB f k r + cB g k r
  | 0, _, _ => rfl
  | r + 1, k, H => by
    simp only [cB]
    rw [H k (by omega) (by omega), cB_add f g h r (k + 1) (fun j h1 h2 => H j (by omega) (by omega))]
    omega
theorem cB_ext (f g : Nat → Bool) : ∀ (r k : Nat), (∀ j, k ≤ j → j < k + r → f j = g j) → cB f k r = cB g k r
  | 0, _, _ => rfl
  | r + 1, k, H => by
    simp only [cB]
    rw [H k (by omega) (by omega), cB_ext f g r (k + 1) (fun j h1 h2 => H j (by omega) (by omega))]
theorem cB_zero (f : Nat → Bool) : ∀ (r k : Nat), cB f k r = 0 ↔ ∀ j, k ≤ j → j < k + r → f j = false
  | 0, k => by
    simp only [cB, true_iff]
    intro j h1 h2
    omega
  | r + 1, k => by
    have ih := cB_zero f r (k + 1)
    simp only [cB]
    cases hf : f k with
    | true =>
      constructor
      · intro h; simp at h
      · intro h
        have := h k (by omega) (by omega)
        rw [hf] at this
        cases this
    | false =>
      rw [show cond false 1 0 + cB f (k + 1) r = cB f (k + 1) r by simp, ih]
      constructor
      · intro h j h1 h2
        by_cases hj : j = k
        · subst hj; exact hf
        · exact h j (by omega) (by omega)
      · intro h j h1 h2
        exact h j (by omega) (by omega)
/-- the pairs within the set that an order breaks, counted by places -/
theorem cs_pos (A B : Nat → Nat) (c : Nat) (hAB : ∀ k, k < c → A k < 7 ∧ B k < 7 ∧ A k ≠ B k) : ∀ (k s : Nat), s < 128 → (els s).length = k → ∀ l, l ∈ plM k s → cB (fun j => (s.testBit (A j) && s.testBit (B j)) && decide (posL l (B j) < posL l (A j))) 0 c = cs A B c s l
  | 0, s, hs, hk, l, hl => by
    have : s = 0 := els_zero s hs hk
    subst this
    simp only [plM, List.mem_singleton] at hl
    subst hl
    rw [show cs A B c 0 [] = 0 from rfl, cB_zero]
    intro j _ _
    simp
  | k + 1, s, hs, hk, l, hl => by
    simp only [plM, List.mem_flatMap, List.mem_map] at hl
    obtain ⟨x, hx, r, hr, rfl⟩ := hl
    obtain ⟨hx7, hxs⟩ := (els_mem s x).mp hx
    have h1 := els_rs s hs x hx7 hxs
    have h2 := rs_lt s hs x hx7 hxs
    have ih := cs_pos A B c hAB k (rs s x) (by omega) (by omega) r hr
    simp only [cs]
    rw [← ih]
    unfold qn
    refine cB_add _ _ _ c 0 (fun j _ hj => ?_)
    obtain ⟨a1, a2, a3⟩ := hAB j (by omega)
    rw [rs_bit s hs x hx7 _ a1, rs_bit s hs x hx7 _ a2]
    by_cases e1 : x = A j
    · have e2 : x ≠ B j := fun q => a3 (e1.symm.trans q)
      have e3 : (B j == x) = false := by simp; exact fun q => e2 q.symm
      have e4 : (A j == x) = true := by simp [e1]
      have hd : decide (posL (x :: r) (B j) < posL (x :: r) (A j)) = false := decide_eq_false (by simp [posL, e1])
      rw [hd, e3, e4]
      simp
    · have e4 : (A j == x) = false := by simp; exact fun q => e1 q.symm
      rw [e4]
      by_cases e2 : x = B j
      · have e3 : (B j == x) = true := by simp [e2]
        have hd : decide (posL (x :: r) (B j) < posL (x :: r) (A j)) = true := decide_eq_true (by simp only [posL]; rw [if_pos e2, if_neg e1]; omega)
        rw [hd, e3, ← e2, hxs]
        cases s.testBit (A j) <;> simp
      · have e3 : (B j == x) = false := by simp; exact fun q => e2 q.symm
        have hd : decide (posL (x :: r) (B j) < posL (x :: r) (A j)) = decide (posL r (B j) < posL r (A j)) := decide_eq_decide.mpr (by simp only [posL]; rw [if_neg e2, if_neg e1]; omega)
        rw [hd, e3]
        cases s.testBit (A j) <;> cases s.testBit (B j) <;> cases decide (posL r (B j) < posL r (A j)) <;> simp
