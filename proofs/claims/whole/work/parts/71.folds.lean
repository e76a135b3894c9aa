-- 71: the first best order, how many are unbroken
/-- the first least one of a row -/
def bst1 {α : Type} (f : α → Nat) : List α → Option (Nat × α)
  | [] => none
  | l :: L => match bst1 f L with
    | none => some (f l, l)
    | some p => if p.1 < f l then some p else some (f l, l)
def mrg {α : Type} (p q : Option (Nat × α)) : Option (Nat × α) := match p, q with
  | none, q => q
  | p, none => p
  | some p, some q => if q.1 < p.1 then some q else some p
theorem bst1_cons {α : Type} (f : α → Nat) (l : α) (L : List α) : bst1 f (l :: L) = mrg (some (f l, l)) (bst1 f L) := by
  simp only [bst1, mrg]
  cases bst1 f L <;> rfl
theorem mrg_none {α : Type} (p : Option (Nat × α)) : mrg p none = p := by cases p <;> rfl
theorem none_mrg {α : Type} (p : Option (Nat × α)) : mrg none p = p := by cases p <;> rfl
theorem mrg_assoc {α : Type} (p q r : Option (Nat × α)) : mrg (mrg p q) r = mrg p (mrg q r) := by
  cases p with
  | none => rw [none_mrg, none_mrg]
  | some p =>
    cases q with
    | none => rw [mrg_none, none_mrg]
    | some q =>
      cases r with
      | none => rw [mrg_none, mrg_none]
      | some r =>
        simp only [mrg]
        by_cases h1 : q.1 < p.1
        · rw [if_pos h1]
          by_cases h2 : r.1 < q.1
          · simp only [mrg, if_pos h2]
            rw [if_pos (by omega)]
          · simp only [mrg, if_neg h2, if_pos h1]
        · rw [if_neg h1]
          by_cases h2 : r.1 < q.1
          · simp only [mrg, if_pos h2]
          · simp only [mrg, if_neg h2, if_neg h1]
            rw [if_neg (by omega)]
theorem bst1_append {α : Type} (f : α → Nat) : ∀ (L1 L2 : List α), bst1 f (L1 ++ L2) = mrg (bst1 f L1) (bst1 f L2)
  | [], L2 => (none_mrg _).symm
  | l :: L1, L2 => by
    rw [List.cons_append, bst1_cons, bst1_append f L1 L2, bst1_cons, mrg_assoc]
theorem bst1_map (f g : List Nat → Nat) (c0 x : Nat) (h : ∀ l, f (x :: l) = c0 + g l) : ∀ L : List (List Nat), bst1 f (L.map (fun l => x :: l)) = (bst1 g L).map (fun p => (c0 + p.1, x :: p.2))
  | [] => rfl
  | l :: L => by
    have ih := bst1_map f g c0 x h L
    rw [List.map_cons, bst1_cons, ih, bst1_cons, h]
    cases bst1 g L with
    | none => rfl
    | some p =>
      simp only [Option.map_some, mrg]
      by_cases hp : p.1 < g l
      · rw [if_pos hp, if_pos (by omega)]
        rfl
      · rw [if_neg hp, if_neg (by omega)]
        rfl
/-- the fewest broken of the orders of a set, and the first such order -/
def bO (A B : Nat → Nat) (c : Nat) (k s : Nat) : Option (Nat × List Nat) := bst1 (cs A B c s) (plM k s)
def mrgs {α : Type} (g : Nat → Option (Nat × α)) : List Nat → Option (Nat × α)
  | [] => none
  | x :: L => mrg (g x) (mrgs g L)
theorem bO_zero (A B : Nat → Nat) (c s : Nat) : bO A B c 0 s = some (0, []) := rfl
theorem bO_succ (A B : Nat → Nat) (c k s : Nat) : bO A B c (k + 1) s = mrgs (fun x => (bO A B c k (rs s x)).map (fun p => (qn A B c (rs s x) x + p.1, x :: p.2))) (els s) := by
  unfold bO
  rw [plM]
  generalize els s = E
  induction E with
  | nil => rfl
  | cons x E ih =>
    rw [List.flatMap_cons, bst1_append, ih, bst1_map (cs A B c s) (cs A B c (rs s x)) (qn A B c (rs s x) x) x (fun l => rfl)]
    rfl
/-- the first of a row where val is least -/
def am (val : Nat → Nat) : List Nat → Option Nat
  | [] => none
  | x :: L => match am val L with
    | none => some x
    | some y => if val y < val x then some y else some x
theorem am_mem (val : Nat → Nat) : ∀ (L : List Nat) (x : Nat), am val L = some x → x ∈ L
  | [], _, h => by cases h
  | y :: L, x, h => by
    simp only [am] at h
    cases hm : am val L with
    | none =>
      rw [hm] at h
      cases h
      simp
    | some z =>
      rw [hm] at h
      simp only at h
      by_cases hz : val z < val y
      · rw [if_pos hz] at h
        cases h
        exact List.mem_cons_of_mem _ (am_mem val L x hm)
      · rw [if_neg hz] at h
        cases h
        simp
theorem am_none (val : Nat → Nat) : ∀ (L : List Nat), am val L = none → L = []
  | [], _ => rfl
  | y :: L, h => by
    simp only [am] at h
    cases hm : am val L with
    | none => rw [hm] at h; cases h
    | some z =>
      rw [hm] at h
      simp only at h
      split at h <;> cases h
theorem mrgs_am {α : Type} (val : Nat → Nat) (pay : Nat → α) : ∀ (L : List Nat), mrgs (fun x => some (val x, pay x)) L = (am val L).map (fun x => (val x, pay x))
  | [] => rfl
  | x :: L => by
    simp only [mrgs, am]
    rw [mrgs_am val pay L]
    cases am val L with
    | none => rfl
    | some y =>
      simp only [Option.map_some, mrg]
      by_cases h : val y < val x
      · rw [if_pos h, if_pos h]
        rfl
      · rw [if_neg h, if_neg h]
        rfl
theorem mrgs_ext {α : Type} (g g' : Nat → Option (Nat × α)) : ∀ (L : List Nat), (∀ x, x ∈ L → g x = g' x) → mrgs g L = mrgs g' L
  | [], _ => rfl
  | x :: L, h => by
    simp only [mrgs]
    rw [h x (by simp), mrgs_ext g g' L (fun y hy => h y (by simp [hy]))]
/-- by sets: the fewest broken, who goes first, the first best order -/
def lbN (A B : Nat → Nat) (c : Nat) (s : Nat) : Nat := match bO A B c (els s).length s with
  | some p => p.1
  | none => 0
def bpN (A B : Nat → Nat) (c : Nat) (s : Nat) : List Nat := match bO A B c (els s).length s with
  | some p => p.2
  | none => []
def vlN (A B : Nat → Nat) (c : Nat) (s x : Nat) : Nat := lbN A B c (rs s x) + qn A B c (rs s x) x
theorem els_ne {s : Nat} (hs : s < 128) (h0 : s ≠ 0) : (els s).length ≠ 0 := fun q => h0 (els_zero s hs q)
theorem bO_some (A B : Nat → Nat) (c : Nat) : ∀ (k s : Nat), s < 128 → (els s).length = k → bO A B c k s = some (lbN A B c s, bpN A B c s)
  | 0, s, hs, hk => by
    unfold lbN bpN
    rw [hk, bO_zero]
  | k + 1, s, hs, hk => by
    unfold lbN bpN
    rw [hk]
    have e : bO A B c (k + 1) s = (am (vlN A B c s) (els s)).map (fun x => (vlN A B c s x, x :: bpN A B c (rs s x))) := by
      rw [bO_succ, ← mrgs_am]
      refine mrgs_ext _ _ _ (fun x hx => ?_)
      obtain ⟨hx7, hxs⟩ := (els_mem s x).mp hx
      have h1 := els_rs s hs x hx7 hxs
      have h2 := rs_lt s hs x hx7 hxs
      rw [bO_some A B c k (rs s x) (by omega) (by omega)]
      unfold vlN
      simp [Nat.add_comm]
    cases ha : am (vlN A B c s) (els s) with
    | none =>
      have := am_none _ _ ha
      rw [this] at hk
      cases hk
    | some x => rw [e, ha]; rfl
theorem lb_step (A B : Nat → Nat) (c s : Nat) (hs : s < 128) (h0 : s ≠ 0) : ∃ x, am (vlN A B c s) (els s) = some x ∧ lbN A B c s = vlN A B c s x ∧ bpN A B c s = x :: bpN A B c (rs s x) := by
  obtain ⟨k, hk⟩ : ∃ k, (els s).length = k + 1 := ⟨(els s).length - 1, by have := els_ne hs h0; omega⟩
  have e : bO A B c (k + 1) s = (am (vlN A B c s) (els s)).map (fun x => (vlN A B c s x, x :: bpN A B c (rs s x))) := by
    rw [bO_succ, ← mrgs_am]
    refine mrgs_ext _ _ _ (fun x hx => ?_)
    obtain ⟨hx7, hxs⟩ := (els_mem s x).mp hx
    have h1 := els_rs s hs x hx7 hxs
    have h2 := rs_lt s hs x hx7 hxs
    rw [bO_some A B c k (rs s x) (by omega) (by omega)]
    unfold vlN
    simp [Nat.add_comm]
  have e2 := bO_some A B c (k + 1) s hs hk
  rw [e] at e2
  cases ha : am (vlN A B c s) (els s) with
  | none => rw [ha] at e2; cases e2
  | some x =>
    rw [ha] at e2
    simp only [Option.map_some, Option.some.injEq, Prod.mk.injEq] at e2
    exact ⟨x, rfl, e2.1.symm, e2.2.symm⟩
theorem lb_zero (A B : Nat → Nat) (c : Nat) : lbN A B c 0 = 0 ∧ bpN A B c 0 = [] := by
  have e := bO_some A B c 0 0 (by omega) (by decide)
  rw [bO_zero] at e
  simp only [Option.some.injEq, Prod.mk.injEq] at e
  exact ⟨e.1.symm, e.2.symm⟩
/-- whether an order of the set breaks none, H x being who goes ahead of x -/
def gdM (H : Nat → Nat) : Nat → List Nat → Bool
  | _, [] => true
  | s, x :: r => (H x &&& rs s x == 0) && gdM H (rs s x) r
def cnL {α : Type} (f : α → Bool) : List α → Nat
  | [] => 0
  | l :: L => cond (f l) 1 0 + cnL f L
theorem cnL_append {α : Type} (f : α → Bool) : ∀ (L1 L2 : List α), cnL f (L1 ++ L2) = cnL f L1 + cnL f L2
  | [], L2 => by simp [cnL]
  | l :: L1, L2 => by
    rw [List.cons_append]
    simp only [cnL]
    rw [cnL_append f L1 L2]
    omega
theorem cnL_ext {α : Type} (f g : α → Bool) : ∀ (L : List α), (∀ l, l ∈ L → f l = g l) → cnL f L = cnL g L
  | [], _ => rfl
  | l :: L, h => by
    simp only [cnL]
    rw [h l (by simp), cnL_ext f g L (fun y hy => h y (by simp [hy]))]
theorem cnL_le {α : Type} (f : α → Bool) : ∀ (L : List α), cnL f L ≤ L.length
  | [] => Nat.le_refl 0
  | l :: L => by
    have := cnL_le f L
    simp only [cnL, List.length_cons]
    cases f l <;> simp <;> omega
def unN (H : Nat → Nat) (s : Nat) : Nat := cnL (gdM H s) (plM (els s).length s)
def sumE (g : Nat → Nat) : List Nat → Nat
  | [] => 0
  | x :: L => g x + sumE g L
theorem un_zero (H : Nat → Nat) : unN H 0 = 1 := by
  unfold unN
  rw [show (els 0).length = 0 by decide]
  rfl
theorem un_step (H : Nat → Nat) (s : Nat) (hs : s < 128) (h0 : s ≠ 0) : unN H s = sumE (fun x => cond (H x &&& rs s x == 0) (unN H (rs s x)) 0) (els s) := by
  obtain ⟨k, hk⟩ : ∃ k, (els s).length = k + 1 := ⟨(els s).length - 1, by have := els_ne hs h0; omega⟩
  unfold unN
  rw [hk, plM]
  have hall : ∀ x, x ∈ els s → (els (rs s x)).length = k := fun x hx => by
    obtain ⟨hx7, hxs⟩ := (els_mem s x).mp hx
    have := els_rs s hs x hx7 hxs
    omega
  generalize els s = E at hall
  induction E with
  | nil => rfl
  | cons x E ih =>
    rw [List.flatMap_cons, cnL_append, ih (fun y hy => hall y (by simp [hy]))]
    simp only [sumE]
    rw [hall x (by simp)]
    congr 1
    generalize plM k (rs s x) = L
    induction L with
    | nil => cases (H x &&& rs s x == 0) <;> rfl
    | cons l L ihL =>
      rw [List.map_cons]
      simp only [cnL, gdM]
      rw [ihL]
      cases (H x &&& rs s x == 0) <;> simp
