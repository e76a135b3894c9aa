-- 88: the class's doing of the clauses
def tdX (M : gM) (T : TT) : Prop := M 6 0 = (T.1 : Int) ∧ (∀ p, p < T.1 → M 7 p = ((T.2.1 p : Nat) : Int)) ∧ kG M T.1 11 0 T.2.2.1 ∧ M 17 0 = (T.2.2.2.1 : Int) ∧ ∀ k, k < T.2.2.2.1 → M 18 k = ((T.2.2.2.2.1 k : Nat) : Int) ∧ M 19 k = ((T.2.2.2.2.2 k : Nat) : Int)
def tdF (M M' : gM) : Prop := ∀ q i, ¬ (q = 6 ∨ q = 7 ∨ q = 12 ∨ q = 13 ∨ (17 ≤ q ∧ q ≤ 19)) → M' q i = M q i
/-- each clause of them can be done -/
def exG : List (Nat × List Nat) → TT → Prop
  | [], _ => True
  | c :: L, T => c.1 ≤ 6 ∧ (c.1 = 6 → 2 ≤ c.2.length) ∧ tdO (exC c T) ∧ exG L (exC c T)
theorem l_tell36 (N d pe k0 : Nat) (x1 : Int) (w : List Nat) (M0 : gM) (hpe : pe < 7) (hk0 : k0 < 20) (hw : w.length ≤ 3) (h6 : M0 6 0 = (pe : Int)) (h5 : ∀ j, j < w.length → M0 5 (3 * k0 + j) = ((w.getD j 0 : Nat) : Int)) : ∀ (r k z : Nat) (M : gM), k + r = w.length → r < z → M 12 pe = (k : Int) → (∀ j, j < k → M 13 (3 * pe + j) = ((w.getD j 0 : Nat) : Int)) → (∀ q i, ¬ ((q = 12 ∧ i = pe) ∨ (q = 13 ∧ 3 * pe ≤ i ∧ i < 3 * pe + 3)) → M q i = M0 q i) → ∃ M', L_X5_tell_36 (gEv N (d + 1)) z x1 ((3 * k0 : Nat) : Int) (w.length : Int) (k : Int) M = some (M', none) ∧ M' 6 0 = ((pe + 1 : Nat) : Int) ∧ M' 12 pe = ((w.length : Nat) : Int) ∧ (∀ j, j < w.length → M' 13 (3 * pe + j) = ((w.getD j 0 : Nat) : Int)) ∧ ∀ q i, ¬ ((q = 6 ∧ i = 0) ∨ (q = 12 ∧ i = pe) ∨ (q = 13 ∧ 3 * pe ≤ i ∧ i < 3 * pe + 3)) → M' q i = M0 q i := by
  intro r
  induction r with
  | zero =>
    intro k z M hk hz h12 h13 hf
    obtain ⟨z, rfl⟩ : ∃ y, z = y + 1 := ⟨z - 1, by omega⟩
    have e := q_X5_tell_36 (gEv N (d + 1)) z x1 ((3 * k0 : Nat) : Int) (w.length : Int) (k : Int) M
    rw [gLt_f (by omega) (by omega) (by omega), cond_false, hf 6 0 (by omega), h6, cast_1 pe] at e
    refine ⟨_, e, gU_same _ _ _ _, ?_, fun j hj => ?_, fun q i hq => ?_⟩
    · rw [gU_off _ _ (by omega), h12]
      omega
    · rw [gU_off _ _ (by omega)]
      exact h13 j (by omega)
    · rw [gU_off _ _ (by omega)]
      exact hf q i (by omega)
  | succ r ih =>
    intro k z M hk hz h12 h13 hf
    obtain ⟨z, rfl⟩ : ∃ y, z = y + 1 := ⟨z - 1, by omega⟩
    have e := q_X5_tell_36 (gEv N (d + 1)) z x1 ((3 * k0 : Nat) : Int) (w.length : Int) (k : Int) M
    have c9 : gEv N (d + 1) 9 [.inr (.inr 12), .inl (pe : Int), .inl ((w.getD k 0 : Nat) : Int)] M = some (gU (gU M 13 (3 * pe + k) ((w.getD k 0 : Nat) : Int)) 12 pe ((k : Int) + 1), none) := s_gappend N d 11 pe k _ M (Or.inr (Or.inl rfl)) hpe h12 (by omega)
    rw [gLt_t (by omega) (by omega) (by omega), cond_true, gInb_t (by omega) (by omega) (by omega), gIf_t, hf 6 0 (by omega), h6, gIx_e (x := ((3 * k0 : Nat) : Int) + (k : Int)) (n := 3 * k0 + k) (by omega) (by omega), hf 5 _ (by omega), h5 k (by omega), c9, gCv_some, cast_1 k] at e
    obtain ⟨M', g1, g2⟩ := ih (k + 1) z (gU (gU M 13 (3 * pe + k) ((w.getD k 0 : Nat) : Int)) 12 pe ((k + 1 : Nat) : Int)) (by omega) (by omega) (gU_same _ _ _ _) (fun j hj => by
      rw [gU_off _ _ (by omega)]
      by_cases hjk : j = k
      · subst hjk
        rw [gU_same]
      · rw [gU_off _ _ (by omega)]
        exact h13 j (by omega)) (fun q i hq => by
      rw [gU_off _ _ (by omega), gU_off _ _ (by omega)]
      exact hf q i hq)
    exact ⟨M', e.trans g1, g2⟩
theorem s_tell (N d k0 wd : Nat) (w : List Nat) (T : TT) (M : gM) (hN : 2000 ≤ N) (hk0 : k0 < 20) (hw : w.length ≤ 3) (hT : T.1 < 7) (h : tdX M T) (hO : tdO T) (h5 : ∀ j, j < w.length → M 5 (3 * k0 + j) = ((w.getD j 0 : Nat) : Int)) : ∃ M', gEv N (d + 2) 25 [.inr (.inr 7), .inl (wd : Int), .inr (.inr 6), .inl ((3 * k0 : Nat) : Int), .inl (w.length : Int)] M = some (M', none) ∧ tdX M' (T.1 + 1, upH T.2.1 T.1 wd, kUp T.2.2.1 T.1 (w.map (fun v : Nat => (v : Int))), T.2.2.2.1, T.2.2.2.2.1, T.2.2.2.2.2) ∧ tdF M M' := by
  obtain ⟨x1, x2, ⟨x3, x3'⟩, x4, x5⟩ := id h
  have e := q_X5_tell N (d + 1) (wd : Int) ((3 * k0 : Nat) : Int) (w.length : Int) M
  have i0 : gIx (T.1 : Int) = T.1 := gIx_e (x := (T.1 : Int)) (n := T.1) rfl (by omega)
  rw [x1, gLt_t (by omega) (by omega) (by omega), cond_true, gInb_t (by omega) (by omega) (by omega), gIf_t, i0, gU_off _ _ (show ¬ (6 = 7 ∧ 0 = T.1) by omega), x1, gInb_t (by omega) (by omega) (by omega), gIf_t, i0] at e
  have f0 : ∀ q i, ¬ ((q = 7 ∧ i = T.1) ∨ (q = 12 ∧ i = T.1)) → gU (gU M 7 T.1 (wd : Int)) 12 T.1 0 q i = M q i := fun q i hq => by rw [gU_off _ _ (by omega), gU_off _ _ (by omega)]
  have w7 : gU (gU M 7 T.1 (wd : Int)) 12 T.1 0 7 T.1 = (wd : Int) := by rw [gU_off _ _ (by omega), gU_same]
  have w12 : gU (gU M 7 T.1 (wd : Int)) 12 T.1 0 12 T.1 = ((0 : Nat) : Int) := gU_same _ _ _ _
  generalize gU (gU M 7 T.1 (wd : Int)) 12 T.1 0 = M0 at e f0 w7 w12
  obtain ⟨M', g1, g2, g3, g4, g5⟩ := l_tell36 N d T.1 k0 (wd : Int) w M0 hT hk0 hw ((f0 _ _ (by omega)).trans x1) (fun j hj => (f0 _ _ (by omega)).trans (h5 j hj)) w.length 0 N M0 (by omega) (by omega) w12 (fun j hj => absurd hj (Nat.not_lt_zero j)) (fun _ _ _ => rfl)
  have f5 : ∀ q i, ¬ ((q = 6 ∧ i = 0) ∨ (q = 7 ∧ i = T.1) ∨ (q = 12 ∧ i = T.1) ∨ (q = 13 ∧ 3 * T.1 ≤ i ∧ i < 3 * T.1 + 3)) → M' q i = M q i := fun q i hq => (g5 q i (by omega)).trans (f0 q i (by omega))
  refine ⟨M', e.trans g1, ⟨g2, fun p hp => ?_, ⟨(f5 _ _ (by omega)).trans x3, fun p hp => ?_⟩, (f5 _ _ (by omega)).trans x4, fun k hk => ⟨(f5 _ _ (by omega)).trans (x5 k hk).1, (f5 _ _ (by omega)).trans (x5 k hk).2⟩⟩, fun q i hq => f5 q i (by omega)⟩
  · simp only at hp ⊢
    by_cases hpn : p = T.1
    · subst hpn
      rw [upH_same, g5 _ _ (by omega), w7]
    · rw [upH_off _ _ hpn, f5 _ _ (by omega)]
      exact x2 p (by omega)
  · simp only at hp ⊢
    by_cases hpn : p = T.1
    · subst hpn
      rw [kUp_same, List.length_map]
      refine ⟨g3, fun j hj => ?_⟩
      rw [List.length_map] at hj
      rw [g4 j hj]
      simp [List.getD_eq_getElem?_getD, hj]
    · rw [kUp_off _ _ hpn]
      obtain ⟨q1, q2⟩ := x3' p (by omega)
      have ql := (hO.2.2.1 p (by omega)).2.1
      exact ⟨(f5 _ _ (by omega)).trans q1, fun j hj => (f5 _ _ (by omega)).trans (q2 j hj)⟩
theorem s_doClause (N d k0 : Nat) (c : Nat × List Nat) (T : TT) (M : gM) (hN : 2000 ≤ N) (hk0 : k0 < 20) (hc : c.1 ≤ 6) (hc6 : c.1 = 6 → 2 ≤ c.2.length) (h : tdX M T) (hO : tdO T) (hO' : tdO (exC c T)) (h3 : M 3 k0 = ((c.1 : Nat) : Int)) (h4 : M 4 k0 = ((c.2.length : Nat) : Int)) (h5 : ∀ j, j < c.2.length → M 5 (3 * k0 + j) = ((c.2.getD j 0 : Nat) : Int)) : ∃ M', gEv N (d + 3) 87 [.inr (.inr 1), .inl (k0 : Int)] M = some (M', none) ∧ tdX M' (exC c T) ∧ tdF M M' := by
  obtain ⟨x1, x2, x3, x4, x5⟩ := id h
  have e := q_X9_doClause N (d + 2) (k0 : Int) M
  rw [gInb_t (by omega) (by omega) (by omega), gIf_t, gIx_e (x := (k0 : Int)) (n := k0) rfl (by omega), h3] at e
  unfold exC at hO' ⊢
  by_cases c5 : c.1 = 5
  · rw [if_pos c5]
    rw [gEq_t (by omega), cond_true] at e
    refine ⟨_, e, ⟨?_, fun p hp => absurd hp (Nat.not_lt_zero p), ⟨?_, fun p hp => absurd hp (Nat.not_lt_zero p)⟩, gU_same _ _ _ _, fun k hk => absurd hk (Nat.not_lt_zero k)⟩, fun q i hq => ?_⟩
    · rw [gU_off _ _ (by omega), gU_same]
      rfl
    · rw [gU_off _ _ (by omega), gU_off _ _ (by omega)]
      exact x3.1
    · rw [gU_off _ _ (by omega), gU_off _ _ (by omega)]
  · rw [if_neg c5] at hO' ⊢
    rw [gEq_f (by omega) (by omega) (by omega) (by omega) (by omega), cond_false] at e
    by_cases c6 : c.1 = 6
    · rw [if_pos c6] at hO' ⊢
      have hp12 := hO'.2.1
      simp only at hp12
      have hl := hc6 c6
      have a0 : M 5 (3 * k0) = ((c.2.getD 0 0 : Nat) : Int) := h5 0 (by omega)
      have a1 : M 5 (3 * k0 + 1) = ((c.2.getD 1 0 : Nat) : Int) := h5 1 (by omega)
      have ia : gIx (T.2.2.2.1 : Int) = T.2.2.2.1 := gIx_e (x := (T.2.2.2.1 : Int)) (n := T.2.2.2.1) rfl (by omega)
      rw [gEq_t (by omega), cond_true, gInb_t (by omega) (by omega) (by omega), gIf_t, gInb_t (by omega) (by omega) (by omega), gIf_t, gIx_e (x := (k0 : Int) * 3) (n := 3 * k0) (by omega) (by omega), gIx_e (x := (k0 : Int) * 3 + 1) (n := 3 * k0 + 1) (by omega) (by omega), a0, a1] at e
      have c23 : gEv N (d + 2) 23 [.inr (.inr 18), .inl ((c.2.getD 0 0 : Nat) : Int), .inl ((c.2.getD 1 0 : Nat) : Int)] M = some (gU (gU (gU M 18 T.2.2.2.1 ((c.2.getD 0 0 : Nat) : Int)) 19 T.2.2.2.1 ((c.2.getD 1 0 : Nat) : Int)) 17 0 ((T.2.2.2.1 + 1 : Nat) : Int), none) := by
        have := q_X4_append N (d + 1) 17 ((c.2.getD 0 0 : Nat) : Int) ((c.2.getD 1 0 : Nat) : Int) M (Or.inr rfl)
        rw [x4, gLt_t (by omega) (by omega) (by omega), cond_true, gInb_t (by omega) (by omega) (by omega), gIf_t, ia, gU_off _ _ (show ¬ (17 = 17 + 1 ∧ 0 = T.2.2.2.1) by omega), x4, gInb_t (by omega) (by omega) (by omega), gIf_t, ia, gU_off _ _ (show ¬ (17 = 17 + 2 ∧ 0 = T.2.2.2.1) by omega), gU_off _ _ (show ¬ (17 = 17 + 1 ∧ 0 = T.2.2.2.1) by omega), x4, cast_1] at this
        exact this
      rw [c23, gCv_some] at e
      have f5 : ∀ q i, ¬ ((q = 17 ∧ i = 0) ∨ (q = 18 ∧ i = T.2.2.2.1) ∨ (q = 19 ∧ i = T.2.2.2.1)) → gU (gU (gU M 18 T.2.2.2.1 ((c.2.getD 0 0 : Nat) : Int)) 19 T.2.2.2.1 ((c.2.getD 1 0 : Nat) : Int)) 17 0 ((T.2.2.2.1 + 1 : Nat) : Int) q i = M q i := fun q i hq => by rw [gU_off _ _ (by omega), gU_off _ _ (by omega), gU_off _ _ (by omega)]
      have w1 : gU (gU (gU M 18 T.2.2.2.1 ((c.2.getD 0 0 : Nat) : Int)) 19 T.2.2.2.1 ((c.2.getD 1 0 : Nat) : Int)) 17 0 ((T.2.2.2.1 + 1 : Nat) : Int) 18 T.2.2.2.1 = ((c.2.getD 0 0 : Nat) : Int) := by rw [gU_off _ _ (by omega), gU_off _ _ (by omega), gU_same]
      have w2 : gU (gU (gU M 18 T.2.2.2.1 ((c.2.getD 0 0 : Nat) : Int)) 19 T.2.2.2.1 ((c.2.getD 1 0 : Nat) : Int)) 17 0 ((T.2.2.2.1 + 1 : Nat) : Int) 19 T.2.2.2.1 = ((c.2.getD 1 0 : Nat) : Int) := by rw [gU_off _ _ (by omega), gU_same]
      have w3 : gU (gU (gU M 18 T.2.2.2.1 ((c.2.getD 0 0 : Nat) : Int)) 19 T.2.2.2.1 ((c.2.getD 1 0 : Nat) : Int)) 17 0 ((T.2.2.2.1 + 1 : Nat) : Int) 17 0 = ((T.2.2.2.1 + 1 : Nat) : Int) := gU_same _ _ _ _
      generalize gU (gU (gU M 18 T.2.2.2.1 ((c.2.getD 0 0 : Nat) : Int)) 19 T.2.2.2.1 ((c.2.getD 1 0 : Nat) : Int)) 17 0 ((T.2.2.2.1 + 1 : Nat) : Int) = M1 at e f5 w1 w2 w3
      refine ⟨M1, e, ⟨(f5 _ _ (by omega)).trans x1, fun p hp => (f5 _ _ (by omega)).trans (x2 p hp), ⟨(f5 _ _ (by omega)).trans x3.1, fun p hp => ⟨(f5 _ _ (by omega)).trans (x3.2 p hp).1, fun j hj => (f5 _ _ (by omega)).trans ((x3.2 p hp).2 j hj)⟩⟩, w3, fun k hk => ?_⟩, fun q i hq => f5 q i (by omega)⟩
      simp only at hk ⊢
      by_cases hkc : k = T.2.2.2.1
      · subst hkc
        rw [upH_same, upH_same]
        exact ⟨w1, w2⟩
      · rw [upH_off _ _ hkc, upH_off _ _ hkc, f5 _ _ (by omega), f5 _ _ (by omega)]
        exact x5 k (by omega)
    · rw [if_neg c6] at hO' ⊢
      obtain ⟨o1, _, o3, _⟩ := hO'
      simp only at o1 o3
      have hl := (o3 T.1 (by omega)).2.1
      rw [kUp_same, List.length_map] at hl
      rw [gEq_f (by omega) (by omega) (by omega) (by omega) (by omega), cond_false, gIf_t, h4, show (k0 : Int) * 3 = ((3 * k0 : Nat) : Int) by omega] at e
      obtain ⟨M', g1, g2, g3⟩ := s_tell N d k0 c.1 c.2 T M hN hk0 hl (by omega) h hO h5
      rw [g1, gCv_some] at e
      exact ⟨M', e, g2, g3⟩
theorem l_xhouse30 (N d : Nat) (hN : 2000 ≤ N) : ∀ (L : List (Nat × List Nat)) (k z : Nat) (T : TT) (M : gM), L.length < z → k + L.length ≤ 20 → M 1 2 = ((k + L.length : Nat) : Int) → clX M k L → exG L T → tdX M T → tdO T → ∃ M', L_X9_house_30 (gEv N (d + 3)) z (k : Int) M = gCv (gEv N (d + 3) 88 [.inr (.inr 1)] M') (fun M1 => some (M1, some (.inl (M1 1 2)))) ∧ tdX M' (exL L T) ∧ tdO (exL L T) ∧ tdF M M' := by
  intro L
  induction L with
  | nil =>
    intro k z T M hz hk h2 hc hG h hO
    obtain ⟨z, rfl⟩ : ∃ y, z = y + 1 := ⟨z - 1, by omega⟩
    have e := q_X9_house_30 (gEv N (d + 3)) z (k : Int) M
    rw [h2, List.length_nil, Nat.add_zero, gLt_f (by omega) (by omega) (by omega), cond_false] at e
    exact ⟨M, e, h, hO, fun _ _ _ => rfl⟩
  | cons c L ih =>
    intro k z T M hz hk h2 hc hG h hO
    obtain ⟨z, rfl⟩ : ∃ y, z = y + 1 := ⟨z - 1, by omega⟩
    obtain ⟨g1, g2, g3, g4⟩ := hG
    rw [List.length_cons] at hz hk h2
    have c0 := hc 0 (by rw [List.length_cons]; omega)
    obtain ⟨c1, c2, c3⟩ := c0
    obtain ⟨M1, y1, y2, y3⟩ := s_doClause N d k c T M hN (by omega) g1 g2 h hO g3 c1 c2 c3
    have e := q_X9_house_30 (gEv N (d + 3)) z (k : Int) M
    rw [h2, gLt_t (by omega) (by omega) (by omega), cond_true, y1, gCv_some, cast_1 k] at e
    obtain ⟨M2, z1, z2, z3, z4⟩ := ih (k + 1) z (exC c T) M1 (by omega) (by omega) ((y3 _ _ (by omega)).trans (h2.trans (by omega))) (fun i hi => by
      have := hc (i + 1) (by rw [List.length_cons]; omega)
      rw [show k + (i + 1) = k + 1 + i by omega] at this
      obtain ⟨v1, v2, v3⟩ := this
      exact ⟨(y3 _ _ (by omega)).trans v1, (y3 _ _ (by omega)).trans v2, fun j hj => (y3 _ _ (by omega)).trans (v3 j hj)⟩) g4 y2 g3
    exact ⟨M2, e.trans z1, z2, z3, fun q i hq => (z4 q i hq).trans (y3 q i hq)⟩
/-- what is read can be done -/
theorem rdT_exG (tx : Nat → Nat) (l : Nat) : ∀ (r e pe pa : Nat) (T : TT) (L : List (Nat × List Nat)), e ≤ l → tdO T → T.1 = pe → T.2.2.2.1 = pa → (rdT tx l r e pe pa).1 = some L → exG L T := by
  intro r
  induction r with
  | zero =>
    intro e pe pa T L he hO hp ha h
    simp only [rdT] at h
    cases h
  | succ r ih =>
    intro e pe pa T L he hO hp ha h
    subst hp
    subst ha
    have hS := nS_le (tx := tx) he
    have o := rdC_ok tx l (nS tx l e) T.1 T.2.2.2.1 hS.2 hO.1 hO.2.1
    rw [rdT_succ] at h
    by_cases hok : (rdC tx l (nS tx l e) T.1 T.2.2.2.1).1 = true
    · rw [if_pos hok] at h
      obtain ⟨L1, h1, rfl⟩ := rdJ_get h
      obtain ⟨x1, x2, x3⟩ := exC_ok (T := T) (tx := tx) (l := l) (s := nS tx l e) hS.2 hO hok
      refine ⟨?_, ?_, x1, ?_⟩
      · rcases rdC_cases hS.2 hok with ⟨w, _⟩ | ⟨a, b, _, _, _, _, _, _, _, w⟩ | ⟨j, j1, _, _, _, w⟩
        · rw [w]; simp
        · rw [w]; simp
        · rw [w]; simp only; omega
      · rcases rdC_cases hS.2 hok with ⟨w, _⟩ | ⟨a, b, _, _, _, _, _, _, _, w⟩ | ⟨j, j1, _, _, _, w⟩
        · rw [w]; simp
        · rw [w]; simp
        · rw [w]; simp only; omega
      · unfold rdQ at h1
        by_cases h2 : (rdC tx l (nS tx l e) T.1 T.2.2.2.1).2.1 < l
        · rw [if_pos h2] at h1
          by_cases h3 : tx (rdC tx l (nS tx l e) T.1 T.2.2.2.1).2.1 = 59 ∧ r ≠ 0
          · rw [if_pos h3] at h1
            exact ih _ _ _ _ L1 (nE_le (tx := tx) o.1).2.1 x1 x2 x3 h1
          · rw [if_neg h3] at h1
            cases h1
        · rw [if_neg h2] at h1
          cases h1
          trivial
    · rw [if_neg hok] at h
      cases h
theorem rdT_le (tx : Nat → Nat) (l : Nat) : ∀ (r e pe pa : Nat), e ≤ l → pe ≤ 7 → pa ≤ 12 → (rdT tx l r e pe pa).2 ≤ l := by
  intro r
  induction r with
  | zero =>
    intro e pe pa he hpe hpa
    simp only [rdT]
    exact he
  | succ r ih =>
    intro e pe pa he hpe hpa
    have hS := nS_le (tx := tx) he
    obtain ⟨o1, _, _, o4⟩ := rdC_ok tx l (nS tx l e) pe pa hS.2 hpe hpa
    rw [rdT_succ]
    by_cases hok : (rdC tx l (nS tx l e) pe pa).1 = true
    · rw [if_pos hok]
      obtain ⟨o5, o6⟩ := o4 hok
      have hq : (rdQ tx l r (rdC tx l (nS tx l e) pe pa).2.1 (rdC tx l (nS tx l e) pe pa).2.2.1 (rdC tx l (nS tx l e) pe pa).2.2.2.1).2 ≤ l := by
        unfold rdQ
        by_cases h2 : (rdC tx l (nS tx l e) pe pa).2.1 < l
        · rw [if_pos h2]
          by_cases h3 : tx (rdC tx l (nS tx l e) pe pa).2.1 = 59 ∧ r ≠ 0
          · rw [if_pos h3]
            exact ih _ _ _ (nE_le (tx := tx) o1).2.1 o5 o6
          · rw [if_neg h3]
            exact o1
        · rw [if_neg h2]
          exact Nat.zero_le _
      unfold rdJ
      cases hQ : (rdQ tx l r (rdC tx l (nS tx l e) pe pa).2.1 (rdC tx l (nS tx l e) pe pa).2.2.1 (rdC tx l (nS tx l e) pe pa).2.2.2.1).1 with
      | none => exact hq
      | some L => exact Nat.zero_le _
    · rw [if_neg hok]
      exact o1
