-- 68: rooms: the search, and the model's way through it
def fstS {β : Type} (g : Nat → Option β) (k : Nat) : Nat → Option β
  | 0 => none
  | m + 1 => match g k with
    | some x => some x
    | none => fstS g (k + 1) m
theorem fstS_none {β : Type} (g : Nat → Option β) : ∀ (m k : Nat), fstS g k m = none ↔ ∀ j, k ≤ j → j < k + m → g j = none
  | 0, k => by
    simp only [fstS, true_iff]
    intro j h1 h2
    omega
  | m + 1, k => by
    have ih := fstS_none g m (k + 1)
    simp only [fstS]
    cases hg : g k with
    | some x =>
      constructor
      · intro h; cases h
      · intro h
        have := h k (by omega) (by omega)
        rw [hg] at this
        cases this
    | none =>
      show fstS g (k + 1) m = none ↔ _
      rw [ih]
      constructor
      · intro h j h1 h2
        by_cases hj : j = k
        · subst hj; exact hg
        · exact h j (by omega) (by omega)
      · intro h j h1 h2
        exact h j (by omega) (by omega)
theorem fstS_ext {β : Type} (g g' : Nat → Option β) : ∀ (m k : Nat), (∀ j, k ≤ j → j < k + m → g j = g' j) → fstS g k m = fstS g' k m
  | 0, _, _ => rfl
  | m + 1, k, h => by
    simp only [fstS]
    rw [h k (by omega) (by omega), fstS_ext g g' m (k + 1) (fun j h1 h2 => h j (by omega) (by omega))]
theorem fstS_split {β : Type} (g : Nat → Option β) (b : Nat) : ∀ (a k : Nat), fstS g k (a + b) = match fstS g k a with
    | some x => some x
    | none => fstS g (k + a) b
  | 0, k => by
    simp only [fstS, Nat.zero_add, Nat.add_zero]
  | a + 1, k => by
    have ih := fstS_split g b a (k + 1)
    rw [show a + 1 + b = a + b + 1 by omega]
    simp only [fstS]
    cases g k with
    | some x => rfl
    | none =>
      show fstS g (k + 1) (a + b) = _
      rw [ih, show k + 1 + a = k + (a + 1) by omega]
def sr (w : Nat → Int) (c : Int) (R : Nat) : Nat → Nat → (Nat → Int) → Option (List Nat)
  | 0, _, _ => some []
  | r + 1, p, L => fstS (fun room => if L room + w p ≤ c then (sr w c R r (p + 1) (upN L room (L room + w p))).map (fun l => room :: l) else none) 0 R
def srX (w : Nat → Int) (c : Int) (R : Nat) : Nat → Nat → Nat → (Nat → Int) → Option (List Nat)
  | 0, _, _, _ => some []
  | r + 1, p, o, L => fstS (fun room => if L room + w p ≤ c then (srX w c R r (p + 1) (max o (room + 1)) (upN L room (L room + w p))).map (fun l => room :: l) else none) 0 (min (o + 1) R)
def swF (a b : Nat) : Nat → Nat := fun j => if j = a then b else if j = b then a else j
theorem swF_lt {a b R j : Nat} (ha : a < R) (hb : b < R) (hj : j < R) : swF a b j < R := by
  unfold swF
  split
  · exact hb
  · split
    · exact ha
    · exact hj
theorem swF_inj {a b i j : Nat} : swF a b i = swF a b j ↔ i = j := by
  unfold swF
  by_cases h1 : i = a <;> by_cases h2 : j = a <;> by_cases h3 : i = b <;> by_cases h4 : j = b <;> simp_all <;> omega
theorem upN_sw (L : Nat → Int) (a b j : Nat) (v : Int) : upN (fun i => L (swF a b i)) j v = fun i => upN L (swF a b j) v (swF a b i) := by
  funext i
  unfold upN
  by_cases h : i = j
  · rw [if_pos h, if_pos (swF_inj.mpr h)]
  · rw [if_neg h, if_neg (fun q => h (swF_inj.mp q))]
theorem sr_sw (w : Nat → Int) (c : Int) (R a b : Nat) (ha : a < R) (hb : b < R) : ∀ (r p : Nat) (L : Nat → Int), sr w c R r p L = none → sr w c R r p (fun i => L (swF a b i)) = none
  | 0, _, _, h => by cases h
  | r + 1, p, L, h => by
    simp only [sr] at h ⊢
    rw [fstS_none] at h ⊢
    intro j h1 h2
    have hj := h (swF a b j) (by omega) (by have := swF_lt (j := j) ha hb (by omega); omega)
    by_cases hc : L (swF a b j) + w p ≤ c
    · rw [if_pos hc] at hj ⊢
      cases hs : sr w c R r (p + 1) (upN L (swF a b j) (L (swF a b j) + w p)) with
      | some l => rw [hs] at hj; cases hj
      | none =>
        have := sr_sw w c R a b ha hb r (p + 1) _ hs
        rw [upN_sw, this]
        rfl
    · rw [if_neg hc]
theorem srX_sr (w : Nat → Int) (c : Int) (R : Nat) : ∀ (r p o : Nat) (L : Nat → Int), (∀ j, o ≤ j → L j = 0) → srX w c R r p o L = sr w c R r p L
  | 0, _, _, _, _ => rfl
  | r + 1, p, o, L, h => by
    simp only [srX, sr]
    have e : ∀ room, srX w c R r (p + 1) (max o (room + 1)) (upN L room (L room + w p)) = sr w c R r (p + 1) (upN L room (L room + w p)) := fun room => srX_sr w c R r (p + 1) _ _ (fun j hj => by
      rw [upN_off _ _ (by omega)]
      exact h j (by omega))
    simp only [e]
    by_cases ho : R ≤ o + 1
    · rw [Nat.min_eq_right ho]
    · rw [Nat.min_eq_left (by omega)]
      have hs := fstS_split (fun room => if L room + w p ≤ c then (sr w c R r (p + 1) (upN L room (L room + w p))).map (fun l => room :: l) else none) (R - (o + 1)) (o + 1) 0
      rw [show o + 1 + (R - (o + 1)) = R by omega] at hs
      rw [hs]
      cases hf : fstS (fun room => if L room + w p ≤ c then (sr w c R r (p + 1) (upN L room (L room + w p))).map (fun l => room :: l) else none) 0 (o + 1) with
      | some x => rfl
      | none =>
        show none = fstS _ (0 + (o + 1)) (R - (o + 1))
        symm
        rw [fstS_none]
        intro j h1 h2
        have hfo := (fstS_none _ _ _).mp hf o (by omega) (by omega)
        rw [h o (by omega)] at hfo
        rw [h j (by omega)]
        by_cases hc : 0 + w p ≤ c
        · rw [if_pos hc] at hfo ⊢
          cases hq : sr w c R r (p + 1) (upN L o (0 + w p)) with
          | some l => rw [hq] at hfo; cases hfo
          | none =>
            have h3 := sr_sw w c R o j (by omega) (by omega) r (p + 1) _ hq
            have h4 : (fun i => upN L o (0 + w p) (swF o j i)) = upN L j (0 + w p) := by
              funext i
              unfold upN swF
              by_cases i1 : i = o
              · subst i1
                rw [if_pos rfl, if_neg (by omega), if_neg (by omega), h j (by omega), h i (by omega)]
              · rw [if_neg i1]
                by_cases i2 : i = j
                · rw [if_pos i2, if_pos rfl, if_pos i2]
                · rw [if_neg i2, if_neg i1, if_neg i2]
            rw [h4] at h3
            rw [h3]
            rfl
        · rw [if_neg hc]
theorem sr_len (w : Nat → Int) (c : Int) (R : Nat) : ∀ (r p : Nat) (L : Nat → Int) (l : List Nat), sr w c R r p L = some l → l.length = r
  | 0, _, _, l, h => by cases h; rfl
  | r + 1, p, L, l, h => by
    simp only [sr] at h
    have go : ∀ (m k : Nat), fstS (fun room => if L room + w p ≤ c then (sr w c R r (p + 1) (upN L room (L room + w p))).map (fun l => room :: l) else none) k m = some l → l.length = r + 1 := by
      intro m
      induction m with
      | zero => intro k h; cases h
      | succ m ih =>
        intro k h
        simp only [fstS] at h
        by_cases hc : L k + w p ≤ c
        · rw [if_pos hc] at h
          cases hs : sr w c R r (p + 1) (upN L k (L k + w p)) with
          | some x =>
            rw [hs] at h
            cases h
            simp [sr_len w c R r (p + 1) _ x hs]
          | none =>
            rw [hs] at h
            exact ih (k + 1) h
        · rw [if_neg hc] at h
          exact ih (k + 1) h
    exact go R 0 h
/-- where one alone has more, there is no way -/
theorem sr_big (w : Nat → Int) (c : Int) (R : Nat) (q : Nat) (hq : c < w q) : ∀ (r p : Nat) (L : Nat → Int), p ≤ q → q < p + r → (∀ j, 0 ≤ L j) → (∀ j, 0 ≤ w j) → sr w c R r p L = none
  | 0, p, L, h1, h2, _, _ => by omega
  | r + 1, p, L, h1, h2, h3, h4 => by
    simp only [sr]
    rw [fstS_none]
    intro j _ _
    have a1 := h3 j
    have a2 := h4 p
    by_cases hc : L j + w p ≤ c
    · rw [if_pos hc]
      have hpq : p ≠ q := fun e => by subst e; omega
      rw [sr_big w c R q hq r (p + 1) _ (by omega) (by omega) (fun i => by
        unfold upN
        split
        · omega
        · exact h3 i) h4]
      rfl
    · rw [if_neg hc]
/-- with a room for each there is one -/
theorem sr_own (w : Nat → Int) (c : Int) (R : Nat) : ∀ (r p : Nat) (L : Nat → Int), p + r ≤ R → (∀ j, p ≤ j → L j = 0) → (∀ j, p ≤ j → j < p + r → w j ≤ c) → sr w c R r p L ≠ none
  | 0, _, _, _, _, _ => by simp [sr]
  | r + 1, p, L, h1, h2, h3 => by
    intro h
    simp only [sr] at h
    have := (fstS_none _ _ _).mp h p (by omega) (by omega)
    rw [h2 p (by omega)] at this
    rw [if_pos (by have := h3 p (by omega) (by omega); omega)] at this
    have hs := sr_own w c R r (p + 1) (upN L p (0 + w p)) (by omega) (fun j hj => by rw [upN_off _ _ (by omega)]; exact h2 j (by omega)) (fun j hj hj2 => h3 j (by omega) (by omega))
    cases hq : sr w c R r (p + 1) (upN L p (0 + w p)) with
    | some l => rw [hq] at this; cases this
    | none => exact hs hq
def fT : Nat → Nat
  | 0 => 10
  | r + 1 => 10 * (fT r + 10)
def FitP (C : gCl) (w : Nat → Int) (c : Int) (R : Nat) (M0 : gM) (r p : Nat) : Prop := ∀ (z : Nat) (L : Nat → Int) (x4 : Int) (M : gM), fT r ≤ z → (∀ q i, q ≠ 103 → q ≠ 104 → M q i = M0 q i) → (∀ j, j < 7 → M 104 j = L j) → (∀ j, 0 ≤ L j ∧ L j ≤ 400) → (∀ q, p ≤ q → q < 7 → M 103 q = -1) →
  (∀ l, sr w c R r p L = some l → ∃ M', L_X10_fits_34 C z c (R : Int) (p : Int) x4 M = some (M', some (.inl 1)) ∧ (∀ i, i < l.length → M' 103 (p + i) = ((l.getD i 0 : Nat) : Int)) ∧ (∀ q, q < p → M' 103 q = M 103 q) ∧ (∀ q i, q ≠ 103 → q ≠ 104 → M' q i = M0 q i)) ∧
  (sr w c R r p L = none → ∃ (z' : Nat) (x4' : Int) (M' : gM), z ≤ z' + fT r ∧ L_X10_fits_34 C z c (R : Int) (p : Int) x4 M = L_X10_fits_34 C z' c (R : Int) ((p : Int) + (-1)) x4' M' ∧ (∀ q, q < 7 → M' 103 q = M 103 q) ∧ (∀ j, j < 7 → M' 104 j = L j) ∧ (∀ q i, q ≠ 103 → q ≠ 104 → M' q i = M0 q i))
theorem l_fit86 (C : gCl) (w : Nat → Int) (c : Int) (R n : Nat) (M0 : gM) (hR : R ≤ 7) (hn : n ≤ 7) (hc : 1 ≤ c ∧ c ≤ 400) (hw : ∀ j, 0 ≤ w j ∧ w j ≤ 400) (h29 : M0 82 29 = (n : Int)) (hC : ∀ (M : gM) (j : Nat), j < n → (∀ q i, q ≠ 103 → q ≠ 104 → M q i = M0 q i) → C 120 [.inr (.inr 82), .inl 0, .inl (j : Int)] M = some (M, some (.inl (w j)))) (r p : Nat) (hp : p + (r + 1) = n) (H : FitP C w c R M0 r (p + 1)) : ∀ (m k z : Nat) (L : Nat → Int) (M : gM), k + m = R → (m + 1) * (fT r + 6) ≤ z → (∀ q i, q ≠ 103 → q ≠ 104 → M q i = M0 q i) → (∀ j, j < 7 → M 104 j = L j) → (∀ j, 0 ≤ L j ∧ L j ≤ 400) → (∀ q, p < q → q < 7 → M 103 q = -1) →
  (∀ l, fstS (fun room => if L room + w p ≤ c then (sr w c R r (p + 1) (upN L room (L room + w p))).map (fun l => room :: l) else none) k m = some l → ∃ M', L_X10_fits_86 C z c (R : Int) (p : Int) (w p) (k : Int) M = some (M', some (.inl 1)) ∧ (∀ i, i < l.length → M' 103 (p + i) = ((l.getD i 0 : Nat) : Int)) ∧ (∀ q, q < p → M' 103 q = M 103 q) ∧ (∀ q i, q ≠ 103 → q ≠ 104 → M' q i = M0 q i)) ∧
  (fstS (fun room => if L room + w p ≤ c then (sr w c R r (p + 1) (upN L room (L room + w p))).map (fun l => room :: l) else none) k m = none → ∃ (z' : Nat) (M' : gM), z ≤ z' + (m + 1) * (fT r + 6) ∧ L_X10_fits_86 C z c (R : Int) (p : Int) (w p) (k : Int) M = L_X10_fits_34 C z' c (R : Int) ((p : Int) + (-1)) (w p) M' ∧ M' 103 p = -1 ∧ (∀ q, q < 7 → q ≠ p → M' 103 q = M 103 q) ∧ (∀ j, j < 7 → M' 104 j = L j) ∧ (∀ q i, q ≠ 103 → q ≠ 104 → M' q i = M0 q i)) := by
  have hwp := hw p
  have ip := gIx_e (x := (p : Int)) (n := p) rfl (by omega)
  intro m
  induction m with
  | zero =>
    intro k z L M hk hz hf hL hb h103
    have : k = R := by omega
    subst this
    obtain ⟨z, rfl⟩ : ∃ y, z = y + 1 + 1 := ⟨z - 2, by omega⟩
    refine ⟨fun l h => (by cases h), fun _ => ⟨z, gU M 103 p (-1), by omega, ?_, gU_same _ _ _ _, fun q _ hq => gU_off _ _ (by omega), fun j hj => by rw [gU_off _ _ (by omega)]; exact hL j hj, fun q i h1 h2 => by rw [gU_off _ _ (by omega)]; exact hf q i h1 h2⟩⟩
    rw [q_X10_fits_86, q_X10_fits_112, ip]
    simp (disch := omega) only [gInb_t, gLt_t, gLt_f, gEq_t, gEq_f, gIx_nat, gIx_id, gIf, cond_true, cond_false, gCi_some, gCv_some, gCr_some, gB01_0, gB01_1, gBi_01, gU_same, gU_off, gW_id, Int.toNat_natCast, Int.toNat_add, Int.toNat_mul, Int.reduceToNat, Nat.add_zero, Int.add_zero]
  | succ m ih =>
    intro k z L M hk hz hf hL hb h103
    have hz1 : (m + 1) * (fT r + 6) + (fT r + 6) ≤ z := by
      rw [Nat.add_mul (m + 1) 1, Nat.one_mul] at hz
      exact hz
    have hz2 : (m + 1 + 1) * (fT r + 6) = (m + 1) * (fT r + 6) + (fT r + 6) := by rw [Nat.add_mul (m + 1) 1, Nat.one_mul]
    obtain ⟨z, rfl⟩ : ∃ y, z = y + 1 := ⟨z - 1, by omega⟩
    have ik := gIx_e (x := (k : Int)) (n := k) rfl (by omega)
    have hbk := hb k
    simp only [fstS]
    by_cases hfit : L k + w p ≤ c
    · rw [if_pos hfit]
      obtain ⟨z, rfl⟩ : ∃ y, z = y + 1 := ⟨z - 1, by omega⟩
      have e1 : L_X10_fits_86 C (z + 1 + 1) c (R : Int) (p : Int) (w p) (k : Int) M = L_X10_fits_34 C z c (R : Int) ((p + 1 : Nat) : Int) (w p) (gU (gU M 103 p (k : Int)) 104 k (L k + w p)) := by
        rw [q_X10_fits_86, q_X10_fits_112, ip, ik, gU_off _ _ (show ¬ (104 = 103 ∧ k = p) by omega), hL k (by omega), cast_1 p]
        simp (disch := omega) only [gInb_t, gLt_t, gLt_f, gEq_t, gEq_f, gIx_nat, gIx_id, gIf, cond_true, cond_false, gCi_some, gCv_some, gCr_some, gB01_0, gB01_1, gBi_01, gU_same, gU_off, gW_id, Int.toNat_natCast, Int.toNat_add, Int.toNat_mul, Int.reduceToNat, Nat.add_zero, Int.add_zero]
      obtain ⟨H1, H2⟩ := H z (upN L k (L k + w p)) (w p) (gU (gU M 103 p (k : Int)) 104 k (L k + w p)) (by omega) (fun q i h1 h2 => by
        rw [gU_off _ _ (by omega), gU_off _ _ (by omega)]; exact hf q i h1 h2) (fun j hj => by
        by_cases hjk : j = k
        · subst hjk; rw [gU_same, upN_same]
        · rw [gU_off _ _ (by omega), gU_off _ _ (by omega), upN_off _ _ hjk]; exact hL j hj) (fun j => by
        unfold upN
        split
        · omega
        · exact hb j) (fun q h1 h2 => by
        rw [gU_off _ _ (by omega), gU_off _ _ (by omega)]; exact h103 q (by omega) h2)
      cases hs : sr w c R r (p + 1) (upN L k (L k + w p)) with
      | some l' =>
        obtain ⟨M', f1, f2, f3, f4⟩ := H1 l' hs
        refine ⟨fun l h => ?_, fun h => by cases h⟩
        cases h
        refine ⟨M', e1.trans f1, fun i hi => ?_, fun q hq => ?_, f4⟩
        · match i with
          | 0 =>
            rw [Nat.add_zero, f3 p (by omega), gU_off _ _ (by omega), gU_same]
            rfl
          | i + 1 =>
            rw [show p + (i + 1) = p + 1 + i by omega, f2 i (by simp at hi; omega)]
            rfl
        · rw [f3 q (by omega), gU_off _ _ (by omega), gU_off _ _ (by omega)]
      | none =>
        obtain ⟨z', x4', M', f1, f2, f3, f4, f5⟩ := H2 hs
        rw [show ((p + 1 : Nat) : Int) + (-1) = (p : Int) by omega] at f2
        obtain ⟨z', rfl⟩ : ∃ y, z' = y + 1 := ⟨z' - 1, by omega⟩
        have p103 : M' 103 p = (k : Int) := by rw [f3 p (by omega), gU_off _ _ (by omega), gU_same]
        have k104 : M' 104 k = L k + w p := by rw [f4 k (by omega), upN_same]
        have e2 : L_X10_fits_34 C (z' + 1) c (R : Int) (p : Int) x4' M' = L_X10_fits_86 C z' c (R : Int) (p : Int) (w p) ((k + 1 : Nat) : Int) (gU M' 104 k (L k)) := by
          rw [q_X10_fits_34, gIx_e (x := 29) (n := 29) rfl (by omega), f5 82 29 (by omega) (by omega), h29, hC M' p (by omega) f5, gCi_some, ip, p103, ik, k104, show L k + w p - w p = L k by omega, cast_1 k]
          simp (disch := omega) only [gInb_t, gLt_t, gLt_f, gEq_t, gEq_f, gIx_nat, gIx_id, gIf, cond_true, cond_false, gCi_some, gCv_some, gCr_some, gB01_0, gB01_1, gBi_01, gU_same, gU_off, gW_id, Int.toNat_natCast, Int.toNat_add, Int.toNat_mul, Int.reduceToNat, Nat.add_zero, Int.add_zero]
        have hih := ih (k + 1) z' L (gU M' 104 k (L k)) (by omega) (by omega) (fun q i h1 h2 => by
          rw [gU_off _ _ (by omega)]; exact f5 q i h1 h2) (fun j hj => by
          by_cases hjk : j = k
          · subst hjk; rw [gU_same]
          · rw [gU_off _ _ (by omega), f4 j hj, upN_off _ _ hjk]) hb (fun q h1 h2 => by
          rw [gU_off _ _ (by omega), f3 q h2, gU_off _ _ (by omega), gU_off _ _ (by omega)]
          exact h103 q h1 h2)
        have hkeep : ∀ q, q < 7 → q ≠ p → gU M' 104 k (L k) 103 q = M 103 q := fun q h1 h2 => by
          rw [gU_off _ _ (by omega), f3 q h1, gU_off _ _ (by omega), gU_off _ _ (by omega)]
        refine ⟨fun l h => ?_, fun h => ?_⟩
        · obtain ⟨M2, g1, g2, g3, g4⟩ := hih.1 l h
          exact ⟨M2, (e1.trans f2).trans (e2.trans g1), g2, fun q hq => (g3 q hq).trans (hkeep q (by omega) (by omega)), g4⟩
        · obtain ⟨z2, M2, g1, g2, g3, g4, g5, g6⟩ := hih.2 h
          exact ⟨z2, M2, by omega, (e1.trans f2).trans (e2.trans g2), g3, fun q h1 h2 => (g4 q h1 h2).trans (hkeep q h1 h2), g5, g6⟩
    · rw [if_neg hfit]
      have e1 : L_X10_fits_86 C (z + 1) c (R : Int) (p : Int) (w p) (k : Int) M = L_X10_fits_86 C z c (R : Int) (p : Int) (w p) ((k + 1 : Nat) : Int) M := by
        rw [q_X10_fits_86, ik, hL k (by omega), cast_1 k]
        simp (disch := omega) only [gInb_t, gLt_t, gLt_f, gEq_t, gEq_f, gIx_nat, gIx_id, gIf, cond_true, cond_false, gCi_some, gCv_some, gCr_some, gB01_0, gB01_1, gBi_01, gU_same, gU_off, gW_id, Int.toNat_natCast, Int.toNat_add, Int.toNat_mul, Int.reduceToNat, Nat.add_zero, Int.add_zero]
      have hih := ih (k + 1) z L M (by omega) (by omega) hf hL hb h103
      refine ⟨fun l h => ?_, fun h => ?_⟩
      · obtain ⟨M2, g1, g2⟩ := hih.1 l h
        exact ⟨M2, e1.trans g1, g2⟩
      · obtain ⟨z2, M2, g1, g2, g3⟩ := hih.2 h
        exact ⟨z2, M2, by omega, e1.trans g2, g3⟩
theorem l_fitP (C : gCl) (w : Nat → Int) (c : Int) (R n : Nat) (M0 : gM) (hR : R ≤ 7) (hn : n ≤ 7) (hc : 1 ≤ c ∧ c ≤ 400) (hw : ∀ j, 0 ≤ w j ∧ w j ≤ 400) (h29 : M0 82 29 = (n : Int)) (hC : ∀ (M : gM) (j : Nat), j < n → (∀ q i, q ≠ 103 → q ≠ 104 → M q i = M0 q i) → C 120 [.inr (.inr 82), .inl 0, .inl (j : Int)] M = some (M, some (.inl (w j)))) : ∀ (r p : Nat), p + r = n → FitP C w c R M0 r p := by
  intro r
  induction r with
  | zero =>
    intro p hp z L x4 M hz hf hL hb h103
    have : p = n := by omega
    subst this
    obtain ⟨z, rfl⟩ : ∃ y, z = y + 1 := ⟨z - 1, by simp only [fT] at hz; omega⟩
    refine ⟨fun l h => ?_, fun h => by cases h⟩
    cases h
    refine ⟨M, ?_, fun i hi => absurd hi (Nat.not_lt_zero i), fun _ _ => rfl, hf⟩
    rw [q_X10_fits_34, gIx_e (x := 29) (n := 29) rfl (by omega), hf 82 29 (by omega) (by omega), h29]
    simp (disch := omega) only [gInb_t, gLt_t, gLt_f, gEq_t, gEq_f, gIx_nat, gIx_id, gIf, cond_true, cond_false, gCi_some, gCv_some, gCr_some, gB01_0, gB01_1, gBi_01, gU_same, gU_off, gW_id, Int.toNat_natCast, Int.toNat_add, Int.toNat_mul, Int.reduceToNat, Nat.add_zero, Int.add_zero]
  | succ r ih =>
    intro p hp z L x4 M hz hf hL hb h103
    obtain ⟨z, rfl⟩ : ∃ y, z = y + 1 := ⟨z - 1, by simp only [fT] at hz; omega⟩
    have hin := l_fit86 C w c R n M0 hR hn hc hw h29 hC r p hp (ih (p + 1) (by omega)) R 0 z L M (by omega) (by
      have h1 : (R + 1) * (fT r + 6) ≤ 8 * (fT r + 6) := Nat.mul_le_mul_right _ (by omega)
      simp only [fT] at hz
      omega) hf hL hb (fun q h1 h2 => h103 q (by omega) h2)
    have e1 : L_X10_fits_34 C (z + 1) c (R : Int) (p : Int) x4 M = L_X10_fits_86 C z c (R : Int) (p : Int) (w p) ((0 : Nat) : Int) M := by
      rw [q_X10_fits_34, gIx_e (x := 29) (n := 29) rfl (by omega), hf 82 29 (by omega) (by omega), h29, hC M p (by omega) hf, gCi_some, gIx_e (x := (p : Int)) (n := p) rfl (by omega), h103 p (by omega) (by omega), show (-1 : Int) + 1 = ((0 : Nat) : Int) from rfl]
      simp (disch := omega) only [gInb_t, gLt_t, gLt_f, gEq_t, gEq_f, gIx_nat, gIx_id, gIf, cond_true, cond_false, gCi_some, gCv_some, gCr_some, gB01_0, gB01_1, gBi_01, gU_same, gU_off, gW_id, Int.toNat_natCast, Int.toNat_add, Int.toNat_mul, Int.reduceToNat, Nat.add_zero, Int.add_zero]
    refine ⟨fun l h => ?_, fun h => ?_⟩
    · obtain ⟨M', g1, g2, g3, g4⟩ := hin.1 l h
      exact ⟨M', e1.trans g1, g2, g3, g4⟩
    · obtain ⟨z', M', g1, g2, g3, g4, g5, g6⟩ := hin.2 h
      have h1 : (R + 1) * (fT r + 6) ≤ 8 * (fT r + 6) := Nat.mul_le_mul_right _ (by omega)
      refine ⟨z', w p, M', by simp only [fT]; omega, e1.trans g2, fun q hq => ?_, g5, g6⟩
      by_cases hqp : q = p
      · subst hqp
        rw [g3, h103 q (by omega) hq]
      · exact g4 q hq hqp
