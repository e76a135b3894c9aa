-- 59: grieve, comfort, undo, keep, back
theorem getD_snoc (l : List Int) (w : Int) {j : Nat} (h : j < l.length) : (l ++ [w]).getD j 0 = l.getD j 0 := by
  rw [List.getD_eq_getElem?_getD, List.getD_eq_getElem?_getD, List.getElem?_append_left h]
theorem getD_last (l : List Int) (w : Int) : (l ++ [w]).getD l.length 0 = w := by
  rw [List.getD_eq_getElem?_getD, List.getElem?_concat_length]
  rfl
theorem kG_snoc {M : gM} {n g p : Nat} {t w : Int} {F : Nat → List Int} (h : kG M n g t F) (hf : ∀ q, q < n → kOkL (F q)) (hp : p < n) (hl : (F p).length < 3) : kG (gU (gU M (g + 2) (3 * p + (F p).length) w) (g + 1) p (((F p).length : Int) + 1)) n g t (kUp F p (F p ++ [w])) := by
  refine ⟨by simp (disch := omega) only [gU_same, gU_off]; exact h.1, fun q hq => ?_⟩
  by_cases hqp : q = p
  · subst hqp
    rw [kUp_same]
    refine ⟨by simp (disch := omega) only [gU_same, gU_off]; simp, fun j hj => ?_⟩
    simp at hj
    by_cases hj2 : j = (F q).length
    · subst hj2
      rw [getD_last]
      simp (disch := omega) only [gU_same, gU_off]
    · rw [getD_snoc _ _ (by omega)]
      simp (disch := omega) only [gU_same, gU_off]
      exact (h.2 q hq).2 j (by omega)
  · rw [kUp_off _ _ hqp]
    have := (hf q hq).1
    refine ⟨by simp (disch := omega) only [gU_same, gU_off]; exact (h.2 q hq).1, fun j hj => ?_⟩
    simp (disch := omega) only [gU_same, gU_off]
    exact (h.2 q hq).2 j hj
theorem kH_snoc {M : gM} {n b p : Nat} {t w : Int} {F : Nat → List Int} (h : kH M n b t F) (hf : ∀ q, q < n → kOkL (F q)) (hn : n ≤ 7) (hp : p < n) (hl : (F p).length < 3) : kH (gU (gU M 82 (b + 3 * p + (F p).length) w) 82 (b + 21 + p) (((F p).length : Int) + 1)) n b t (kUp F p (F p ++ [w])) := by
  refine ⟨by simp (disch := omega) only [gU_same, gU_off]; exact h.1, fun q hq => ?_⟩
  by_cases hqp : q = p
  · subst hqp
    rw [kUp_same]
    refine ⟨by simp (disch := omega) only [gU_same, gU_off]; simp, fun j hj => ?_⟩
    simp at hj
    by_cases hj2 : j = (F q).length
    · subst hj2
      rw [getD_last]
      simp (disch := omega) only [gU_same, gU_off]
    · rw [getD_snoc _ _ (by omega)]
      simp (disch := omega) only [gU_same, gU_off]
      exact (h.2 q hq).2 j (by omega)
  · rw [kUp_off _ _ hqp]
    have := (hf q hq).1
    refine ⟨by simp (disch := omega) only [gU_same, gU_off]; exact (h.2 q hq).1, fun j hj => ?_⟩
    simp (disch := omega) only [gU_same, gU_off]
    exact (h.2 q hq).2 j hj
theorem kOk_up {n p : Nat} {t : Int} {F : Nat → List Int} {l : List Int} (h : kOk n t F) (hl : kOkL l) : kOk n t (kUp F p l) := ⟨h.1, h.2.1, fun q hq => by
  by_cases hqp : q = p
  · subst hqp; rw [kUp_same]; exact hl
  · rw [kUp_off _ _ hqp]; exact h.2.2 q hq⟩
theorem kOkL_snoc {l : List Int} {w : Int} (h : kOkL l) (hl : l.length < 3) (hw : 1 ≤ w ∧ w ≤ 99) : kOkL (l ++ [w]) := ⟨by simp; omega, fun x hx => by
  simp at hx
  rcases hx with hx | hx
  · exact h.2 x hx
  · subst hx; exact hw⟩
theorem p_grieve (N d : Nat) (a w : Int) (M : gM) (hN : 100000 ≤ N) (hI : kInv M) (ha : rng a) (hw' : rng w) : kPair N (d + 20) 63 135 [.inl a, .inl w] M := by
  obtain ⟨n, K, t, F, G, c, A, B, c', A', B', l, s, h⟩ := id hI
  obtain ⟨hP, hW, hT, hQ, hQ', hX, hU, hKp, hS, hD, hw, hz⟩ := id h
  have hn := hP.1
  have h6 := hP.2.1
  have m29 := hP.2.2.1
  have hKx := iPpl_kx hP
  have hKm := iPpl_km hP
  obtain ⟨hOk, hG8, hH0⟩ := id hW
  obtain ⟨o1, o2, o3⟩ := id hOk
  have c1 := q_X9_grieve N (d + 19) a w M
  rw [s_xhas _ _ n _ _ hn h6 ha, gCi_some, s_xin N _ w 1 99 M hw' (rng_c (by omega) (by omega)) (rng_c (by omega) (by omega)), gCi_some] at c1
  have c2 := q_X10_grieve N (d + 19) a w M
  rw [s_mhas _ _ n _ _ hn m29 ha, gCi_some, s_min N _ w 1 99 (((1 : Nat) : Int)) (((99 : Nat) : Int) - ((0 : Nat) : Int)) M hw' (rng_c (by omega) (by omega)) (rng_c (by omega) (by omega)) rfl rfl, gCi_some] at c2
  by_cases hp : 0 ≤ a ∧ a < (n : Int)
  · rw [decide_eq_true hp] at c1 c2
    obtain ⟨p, rfl⟩ : ∃ p : Nat, a = (p : Int) := ⟨a.toNat, by omega⟩
    have hpn : p < n := by omega
    have x9 := (hG8.2 p hpn).1
    have m21 : M 82 (21 + p) = ((F p).length : Int) := by
      have := (hH0.2 p hpn).1
      rw [Nat.zero_add] at this
      exact this
    have ip := gIx_e (x := (p : Int)) (n := p) rfl (by omega)
    have i21 := gIx_e (x := 21 + (p : Int)) (n := 21 + p) (by omega) (by omega)
    have hfp := o3 p hpn
    have hl3 := hfp.1
    by_cases h0 : 1 ≤ w ∧ w ≤ 99
    · rw [decide_eq_true h0, ip, x9] at c1
      rw [decide_eq_true h0, i21, m21] at c2
      by_cases h1 : (F p).length < 3
      · obtain ⟨u, lt, T, G', u1, u2, u3⟩ := iUnd_to hU
        obtain ⟨Ma, a1, a2, a3⟩ := s_xrem N (d + 17) n u lt T G' t F M hn u1 hOk u2 hG8
        have hGa : kG Ma n 8 t F := kG_fr hG8 o3 hn (fun q i hq => a3 q i (by omega))
        have b1 := s_gappend N (d + 18) 8 p (F p).length w Ma kPl8 (by omega) ((a3 9 p (by omega)).trans x9) h1
        have b2 := kG_snoc (w := w) hGa o3 hpn h1
        generalize hMb : gU (gU Ma (8 + 2) (3 * p + (F p).length) w) (8 + 1) p (((F p).length : Int) + 1) = Mb at b1 b2
        have b3 : ∀ q i, ¬ (q = 9 ∨ q = 10) → Mb q i = Ma q i := fun q i hq => by rw [← hMb]; simp (disch := omega) only [gU_same, gU_off]
        have fb : ∀ q i, ¬ ((8 ≤ q ∧ q ≤ 10) ∨ (20 ≤ q ∧ q < 46)) → Mb q i = M q i := fun q i hq => (b3 q i (by omega)).trans (a3 q i (by omega))
        have hOk2 : kOk n t (kUp F p (F p ++ [w])) := kOk_up hOk (kOkL_snoc hfp h1 h0)
        have hKxb : kKx Mb n K := ⟨by rw [fb _ _ (by omega)]; exact hKx.1, fun q hq => ⟨(hKx.2 q hq).1, by rw [fb _ _ (by omega)]; exact (hKx.2 q hq).2⟩⟩
        have e1 : gEv N (d + 20) 63 [.inr (.inr 1), .inl (p : Int), .inl w] M = some (Mb, some (.inl (ld K (kUp F p (F p ++ [w])) 0 p))) := by
          refine c1.trans ?_
          rw [a1, gCv_some, b1, gCv_some, s_xload0 N _ p n K t _ Mb (by omega) hn hpn hKxb hOk2 b2, gCi_some]
          simp (disch := omega) only [gInb_t, gLt_t, gLt_f, gEq_t, gEq_f, gIx_nat, gIx_id, gIf, cond_true, cond_false, gCi_some, gCv_some, gCr_some, gB01_0, gB01_1, gBi_01, gU_same, gU_off, gW_id, Int.toNat_natCast, Int.toNat_add, Int.toNat_mul, Int.reduceToNat, Nat.add_zero, Int.add_zero, bI_eq0, bI_B, Bool.not_true, Bool.not_false, bI_t, bI_f]
        have hXb := uX_fr (M' := Mb) a2 (uOk_push u1 hOk) hn (fun q i hq => b3 q i (by omega))
        have hMb2 : uM Mb n u T G' := uM_fr u3 u1 hn (fun q i hq => fb q i (by omega))
        have hHb : kH Mb n 0 t F := kH_fr hH0 o3 hn (fun i h1 h2 => fb _ _ (by omega))
        obtain ⟨Mc, g1, g2, g3⟩ := s_mrem N (d + 17) n u lt T G' t F Mb (by omega) hn u1 hOk hMb2 hHb
        have hHc : kH Mc n 0 t F := kH_fr hHb o3 hn (fun i h1 h2 => g3 _ _ (by omega))
        have d2 := kH_snoc (w := w) hHc o3 hn hpn h1
        rw [Nat.zero_add, Nat.zero_add] at d2
        generalize hMd : gU (gU Mc 82 (3 * p + (F p).length) w) 82 (21 + p) (((F p).length : Int) + 1) = Md at d2
        have d3 : ∀ q i, ¬ (q = 82 ∧ i < 29) → Md q i = Mc q i := fun q i hq => by rw [← hMd]; simp (disch := omega) only [gU_same, gU_off]
        have hKmd : kKm Md n K := kKm_fr hKm hn (fun i h1 h2 => (d3 _ _ (by omega)).trans ((g3 _ _ (by omega)).trans (fb _ _ (by omega))))
        have m21c : Mc 82 (21 + p) = ((F p).length : Int) := by
          have := (hHc.2 p hpn).1
          rw [Nat.zero_add] at this
          exact this
        have m21b : Mb 82 (21 + p) = ((F p).length : Int) := (fb _ _ (by omega)).trans m21
        have e2 : gEv N (d + 20) 135 [.inr (.inr 82), .inl (p : Int), .inl w] Mb = some (Md, some (.inl (ld K (kUp F p (F p ++ [w])) 0 p))) := by
          have c4 := q_X10_grieve N (d + 19) (p : Int) w Mb
          rw [s_mhas _ _ n _ _ hn (by rw [fb _ _ (by omega)]; exact m29) ha, gCi_some, s_min N _ w 1 99 (((1 : Nat) : Int)) (((99 : Nat) : Int) - ((0 : Nat) : Int)) Mb hw' (rng_c (by omega) (by omega)) (rng_c (by omega) (by omega)) rfl rfl, gCi_some, decide_eq_true hp, decide_eq_true h0, i21, m21b, g1, gCv_some, m21c, gIx_e (x := (0 + 3 * (p : Int)) + ((F p).length : Int)) (n := 3 * p + (F p).length) (by omega) (by omega)] at c4
          have e21 : gU Mc 82 (3 * p + (F p).length) w 82 (21 + p) = ((F p).length : Int) := by simp (disch := omega) only [gU_same, gU_off, m21c]
          rw [e21, hMd, s_mload0 N _ p n K t _ Md (by omega) hn hpn hKmd hOk2 d2, gCi_some] at c4
          refine c4.trans ?_
          simp (disch := omega) only [gInb_t, gLt_t, gLt_f, gEq_t, gEq_f, gIx_nat, gIx_id, gIf, cond_true, cond_false, gCi_some, gCv_some, gCr_some, gB01_0, gB01_1, gBi_01, gU_same, gU_off, gW_id, Int.toNat_natCast, Int.toNat_add, Int.toNat_mul, Int.reduceToNat, Nat.add_zero, Int.add_zero, bI_eq0, bI_B, Bool.not_true, Bool.not_false, bI_t, bI_f]
        have fd : ∀ q i, ¬ ((8 ≤ q ∧ q ≤ 10) ∨ (20 ≤ q ∧ q < 46) ∨ (q = 82 ∧ i < 29) ∨ (q = 82 ∧ 124 ≤ i ∧ i < 356) ∨ (q = 81 ∧ i = 1)) → Md q i = M q i := fun q i hq => ((d3 q i (by omega)).trans (g3 q i (by omega))).trans (fb q i (by omega))
        refine ⟨_, _, _, e1, e2, fun i => fb _ _ (by omega), fb _ _ (by omega), n, K, t, kUp F p (F p ++ [w]), G, c, A, B, c', A', B', l, s, kI_now ⟨hOk2, kG_fr b2 hOk2.2.2 hn (fun q i hq => (d3 q i (by omega)).trans (g3 q i (by omega))), d2⟩ (iUnd_of (uOk_push u1 hOk) (uX_fr hXb (uOk_push u1 hOk) hn (fun q i hq => (d3 q i (by omega)).trans (g3 q i (by omega)))) (uM_fr g2 (uOk_push u1 hOk) hn (fun q i hq => d3 q i (by omega)))) h (fun q i hq => fd q i (by omega))⟩
      · refine kPair_ro (-5) hI (c1.trans ?_) (c2.trans ?_)
        · simp (disch := omega) only [gInb_t, gLt_t, gLt_f, gEq_t, gEq_f, gIx_nat, gIx_id, gIf, cond_true, cond_false, gCi_some, gCv_some, gCr_some, gB01_0, gB01_1, gBi_01, gU_same, gU_off, gW_id, Int.toNat_natCast, Int.toNat_add, Int.toNat_mul, Int.reduceToNat, Nat.add_zero, Int.add_zero, bI_eq0, bI_B, Bool.not_true, Bool.not_false, bI_t, bI_f]
        · simp (disch := omega) only [gInb_t, gLt_t, gLt_f, gEq_t, gEq_f, gIx_nat, gIx_id, gIf, cond_true, cond_false, gCi_some, gCv_some, gCr_some, gB01_0, gB01_1, gBi_01, gU_same, gU_off, gW_id, Int.toNat_natCast, Int.toNat_add, Int.toNat_mul, Int.reduceToNat, Nat.add_zero, Int.add_zero, bI_eq0, bI_B, Bool.not_true, Bool.not_false, bI_t, bI_f]
    · rw [decide_eq_false h0] at c1 c2
      refine kPair_ro (-3) hI (c1.trans ?_) (c2.trans ?_)
      · simp (disch := omega) only [gInb_t, gLt_t, gLt_f, gEq_t, gEq_f, gIx_nat, gIx_id, gIf, cond_true, cond_false, gCi_some, gCv_some, gCr_some, gB01_0, gB01_1, gBi_01, gU_same, gU_off, gW_id, Int.toNat_natCast, Int.toNat_add, Int.toNat_mul, Int.reduceToNat, Nat.add_zero, Int.add_zero, bI_eq0, bI_B, Bool.not_true, Bool.not_false, bI_t, bI_f]
      · simp (disch := omega) only [gInb_t, gLt_t, gLt_f, gEq_t, gEq_f, gIx_nat, gIx_id, gIf, cond_true, cond_false, gCi_some, gCv_some, gCr_some, gB01_0, gB01_1, gBi_01, gU_same, gU_off, gW_id, Int.toNat_natCast, Int.toNat_add, Int.toNat_mul, Int.reduceToNat, Nat.add_zero, Int.add_zero, bI_eq0, bI_B, Bool.not_true, Bool.not_false, bI_t, bI_f]
  · rw [decide_eq_false hp] at c1 c2
    refine kPair_ro (-2) hI (c1.trans ?_) (c2.trans ?_)
    · simp (disch := omega) only [gInb_t, gLt_t, gLt_f, gEq_t, gEq_f, gIx_nat, gIx_id, gIf, cond_true, cond_false, gCi_some, gCv_some, gCr_some, gB01_0, gB01_1, gBi_01, gU_same, gU_off, gW_id, Int.toNat_natCast, Int.toNat_add, Int.toNat_mul, Int.reduceToNat, Nat.add_zero, Int.add_zero, bI_eq0, bI_B, Bool.not_true, Bool.not_false, bI_t, bI_f]
    · simp (disch := omega) only [gInb_t, gLt_t, gLt_f, gEq_t, gEq_f, gIx_nat, gIx_id, gIf, cond_true, cond_false, gCi_some, gCv_some, gCr_some, gB01_0, gB01_1, gBi_01, gU_same, gU_off, gW_id, Int.toNat_natCast, Int.toNat_add, Int.toNat_mul, Int.reduceToNat, Nat.add_zero, Int.add_zero, bI_eq0, bI_B, Bool.not_true, Bool.not_false, bI_t, bI_f]
/-- where the greatest is -/
def gIdx (f : Nat → Int) (k i : Nat) : Nat → Nat
  | 0 => i
  | r + 1 => gIdx f (k + 1) (if f i < f k then k else i) r
theorem gIdx_lt (f : Nat → Int) : ∀ (r k i m : Nat), k + r = m → i < m → gIdx f k i r < m
  | 0, k, i, m, h, hi => hi
  | r + 1, k, i, m, h, hi => gIdx_lt f r (k + 1) _ m (by omega) (by split <;> omega)
theorem s_wt (N d p k : Nat) (k' v : Int) (M : gM) (hp : p < 7) (hk : k < 3) (e : k' = (k : Int)) (h : M 10 (3 * p + k) = v) : gEv N (d + 1) 8 [.inr (.inr 9), .inl (p : Int), .inl k'] M = some (M, some (.inl v)) := by
  subst e; subst h
  exact s_weight N d 8 p k M kPl8 hp hk
theorem l_rm49 (N d p i m : Nat) (f : Nat → Int) (v : Int) (hp : p < 7) (hm : m ≤ 3) (hi : i < m) : ∀ (r k z : Nat) (M : gM), k + r = m → i + 1 ≤ k → r < z → M 9 p = (m : Int) → (∀ j, j < m → M 10 (3 * p + j) = if i ≤ j ∧ j + 1 < k then f (j + 1) else f j) →
    ∃ M', L_X1_removeGreatest_49 (gEv N (d + 1)) z 8 (p : Int) (i : Int) v (k : Int) M = some (M', some (.inl v)) ∧ M' 9 p = ((m - 1 : Nat) : Int) ∧ (∀ j, j < m - 1 → M' 10 (3 * p + j) = if i ≤ j then f (j + 1) else f j) ∧ ∀ q a, ¬ ((q = 9 ∧ a = p) ∨ (q = 10 ∧ 3 * p ≤ a ∧ a < 3 * p + 3)) → M' q a = M q a := by
  intro r
  induction r with
  | zero =>
    intro k z M hk hik hz h9 h10
    obtain ⟨z, rfl⟩ : ∃ y, z = y + 1 := ⟨z - 1, by omega⟩
    have : k = m := by omega
    subst this
    rw [q_X1_removeGreatest_49 _ _ _ _ _ _ _ _ kPl8, gIx_e (x := (p : Int)) (n := p) rfl (by omega), show 8 + 1 = 9 from rfl, h9, gMax_id (by omega) (by omega) (by omega) (by omega), if_neg (by omega)]
    refine ⟨gU M 9 p ((k : Int) - 1), by simp (disch := omega) only [gInb_t, gLt_t, gLt_f, gEq_t, gEq_f, gIx_nat, gIx_id, gIf, cond_true, cond_false, gCi_some, gCv_some, gCr_some, gB01_0, gB01_1, gBi_01, gU_same, gU_off, gW_id, Int.toNat_natCast, Int.toNat_add, Int.toNat_mul, Int.reduceToNat, Nat.add_zero, Int.add_zero], by simp (disch := omega) only [gU_same, gU_off]; omega, fun j hj => ?_, fun q a hq => by simp (disch := omega) only [gU_same, gU_off]⟩
    simp (disch := omega) only [gU_same, gU_off]
    rw [h10 j (by omega)]
    by_cases hj2 : i ≤ j
    · rw [if_pos ⟨hj2, by omega⟩, if_pos hj2]
    · rw [if_neg (fun q => hj2 q.1), if_neg hj2]
  | succ r ih =>
    intro k z M hk hik hz h9 h10
    obtain ⟨z, rfl⟩ : ∃ y, z = y + 1 := ⟨z - 1, by omega⟩
    have e := h10 k (by omega)
    rw [if_neg (by omega)] at e
    obtain ⟨M', e1, e2, e3, e4⟩ := ih (k + 1) z (gU M 10 (3 * p + (k - 1)) (f k)) (by omega) (by omega) (by omega) (by simp (disch := omega) only [gU_same, gU_off]; exact h9) (fun j hj => by
      by_cases hjk : j = k - 1
      · subst hjk
        rw [gU_same, if_pos (by omega), show k - 1 + 1 = k by omega]
      · rw [gU_off _ _ (by omega), h10 j hj]
        have : (i ≤ j ∧ j + 1 < k + 1) ↔ (i ≤ j ∧ j + 1 < k) := by omega
        simp only [this])
    refine ⟨M', ?_, e2, e3, fun q a hq => (e4 q a hq).trans (by simp (disch := omega) only [gU_same, gU_off])⟩
    rw [q_X1_removeGreatest_49 _ _ _ _ _ _ _ _ kPl8, gIx_e (x := (p : Int)) (n := p) rfl (by omega), show 8 + 1 = 9 from rfl, h9, s_wt N d p k (k : Int) (f k) M hp (by omega) rfl e, gCi_some, gIx_e (x := (p : Int) * 3 + (k : Int) - 1) (n := 3 * p + (k - 1)) (by omega) (by omega), cast_1 k, e1]
    simp (disch := omega) only [gInb_t, gLt_t, gLt_f, gEq_t, gEq_f, gIx_nat, gIx_id, gIf, cond_true, cond_false, gCi_some, gCv_some, gCr_some, gB01_0, gB01_1, gBi_01, gU_same, gU_off, gW_id, Int.toNat_natCast, Int.toNat_add, Int.toNat_mul, Int.reduceToNat, Nat.add_zero, Int.add_zero]
theorem l_rm4 (N d p m : Nat) (f : Nat → Int) (M : gM) (hp : p < 7) (hm : m ≤ 3) (h9 : M 9 p = (m : Int)) (h10 : ∀ j, j < m → M 10 (3 * p + j) = f j ∧ 1 ≤ f j ∧ f j ≤ 99) : ∀ (r k i z : Nat), k + r = m → i < m → r + 10 < z → ∃ z', 10 ≤ z' ∧ L_X1_removeGreatest_4 (gEv N (d + 1)) z 8 (p : Int) (i : Int) (k : Int) M = L_X1_removeGreatest_49 (gEv N (d + 1)) z' 8 (p : Int) ((gIdx f k i r : Nat) : Int) (f (gIdx f k i r)) (((gIdx f k i r : Nat) : Int) + 1) M := by
  intro r
  induction r with
  | zero =>
    intro k i z hk hi hz
    obtain ⟨z, rfl⟩ : ∃ y, z = y + 1 := ⟨z - 1, by omega⟩
    refine ⟨z, by omega, ?_⟩
    rw [q_X1_removeGreatest_4 _ _ _ _ _ _ _ kPl8, gIx_e (x := (p : Int)) (n := p) rfl (by omega), show 8 + 1 = 9 from rfl, h9, s_wt N d p i (i : Int) (f i) M hp (by omega) rfl (h10 i hi).1]
    simp (disch := omega) only [gInb_t, gLt_t, gLt_f, gEq_t, gEq_f, gIx_nat, gIx_id, gIf, cond_true, cond_false, gCi_some, gCv_some, gCr_some, gB01_0, gB01_1, gBi_01, gU_same, gU_off, gW_id, Int.toNat_natCast, Int.toNat_add, Int.toNat_mul, Int.reduceToNat, Nat.add_zero, Int.add_zero]
    rfl
  | succ r ih =>
    intro k i z hk hi hz
    obtain ⟨z, rfl⟩ : ∃ y, z = y + 1 := ⟨z - 1, by omega⟩
    have b1 := h10 k (by omega)
    have b2 := h10 i (by omega)
    rw [q_X1_removeGreatest_4 _ _ _ _ _ _ _ kPl8, gIx_e (x := (p : Int)) (n := p) rfl (by omega), show 8 + 1 = 9 from rfl, h9, s_wt N d p k (k : Int) (f k) M hp (by omega) rfl b1.1, gCi_some, s_wt N d p i (i : Int) (f i) M hp (by omega) rfl (h10 i hi).1, cast_1 k]
    simp only [gIdx]
    by_cases h : f i < f k
    · rw [if_pos h]
      simp (disch := omega) only [gInb_t, gLt_t, gLt_f, gEq_t, gEq_f, gIx_nat, gIx_id, gIf, cond_true, cond_false, gCi_some, gCv_some, gCr_some, gB01_0, gB01_1, gBi_01, gU_same, gU_off, gW_id, Int.toNat_natCast, Int.toNat_add, Int.toNat_mul, Int.reduceToNat, Nat.add_zero, Int.add_zero]
      exact ih (k + 1) k z (by omega) (by omega) (by omega)
    · rw [if_neg h]
      simp (disch := omega) only [gInb_t, gLt_t, gLt_f, gEq_t, gEq_f, gIx_nat, gIx_id, gIf, cond_true, cond_false, gCi_some, gCv_some, gCr_some, gB01_0, gB01_1, gBi_01, gU_same, gU_off, gW_id, Int.toNat_natCast, Int.toNat_add, Int.toNat_mul, Int.reduceToNat, Nat.add_zero, Int.add_zero]
      exact ih (k + 1) i z (by omega) (by omega) (by omega)
def rmI (l : List Int) : Nat := gIdx (fun j => l.getD j 0) 1 0 (l.length - 1)
theorem rmI_lt {l : List Int} (h : l ≠ []) : rmI l < l.length := by
  have : 0 < l.length := List.length_pos_iff.mpr h
  exact gIdx_lt _ (l.length - 1) 1 0 l.length (by omega) (by omega)
/-- it is the greatest, and the first of like ones -/
theorem rmI_max {l : List Int} (h : kOkL l) (hl : l ≠ []) : l.getD (rmI l) 0 = maxL 0 l ∧ ∀ j, j < rmI l → l.getD j 0 ≠ maxL 0 l := by
  obtain ⟨h3, hw⟩ := h
  match l, h3, hl, hw with
  | [x], _, _, hw =>
    have hx := hw x (by simp)
    refine ⟨?_, fun j hj => ?_⟩
    · show x = if 0 < x then x else 0
      rw [if_pos (by omega)]
    · exact absurd hj (Nat.not_lt_zero j)
  | [x, y], _, _, hw =>
    have hx := hw x (by simp)
    have hy := hw y (by simp)
    have e : rmI [x, y] = if x < y then 1 else 0 := rfl
    have e2 : maxL 0 [x, y] = if (if 0 < x then x else 0) < y then y else (if 0 < x then x else 0) := rfl
    rw [e, e2, if_pos (show 0 < x by omega)]
    by_cases h1 : x < y
    · simp only [if_pos h1]
      refine ⟨rfl, fun j hj => ?_⟩
      have : j = 0 := by omega
      subst this
      show x ≠ y
      omega
    · simp only [if_neg h1]
      exact ⟨rfl, fun j hj => absurd hj (Nat.not_lt_zero j)⟩
  | [x, y, z], _, _, hw =>
    have hx := hw x (by simp)
    have hy := hw y (by simp)
    have hz := hw z (by simp)
    have e : rmI [x, y, z] = if (List.getD [x, y, z] (if x < y then 1 else 0) 0) < z then 2 else (if x < y then 1 else 0) := rfl
    have e2 : maxL 0 [x, y, z] = if (if (if 0 < x then x else 0) < y then y else (if 0 < x then x else 0)) < z then z else (if (if 0 < x then x else 0) < y then y else (if 0 < x then x else 0)) := rfl
    rw [e, e2, if_pos (show 0 < x by omega)]
    by_cases h1 : x < y
    · simp only [if_pos h1, show List.getD [x, y, z] 1 0 = y from rfl]
      by_cases h2 : y < z
      · simp only [if_pos h2]
        refine ⟨rfl, fun j hj => ?_⟩
        rcases (by omega : j = 0 ∨ j = 1) with rfl | rfl
        · show x ≠ z
          omega
        · show y ≠ z
          omega
      · simp only [if_neg h2]
        refine ⟨rfl, fun j hj => ?_⟩
        have : j = 0 := by omega
        subst this
        show x ≠ y
        omega
    · simp only [if_neg h1, show List.getD [x, y, z] 0 0 = x from rfl]
      by_cases h2 : x < z
      · simp only [if_pos h2]
        refine ⟨rfl, fun j hj => ?_⟩
        rcases (by omega : j = 0 ∨ j = 1) with rfl | rfl
        · show x ≠ z
          omega
        · show y ≠ z
          omega
      · simp only [if_neg h2]
        exact ⟨rfl, fun j hj => absurd hj (Nat.not_lt_zero j)⟩
theorem getD_erase (l : List Int) (i j : Nat) : (l.eraseIdx i).getD j 0 = if i ≤ j then l.getD (j + 1) 0 else l.getD j 0 := by
  simp only [List.getD_eq_getElem?_getD, List.getElem?_eraseIdx]
  by_cases h : j < i
  · rw [if_pos h, if_neg (by omega)]
  · rw [if_neg h, if_pos (by omega)]
theorem kOkL_erase {l : List Int} (h : kOkL l) (i : Nat) : kOkL (l.eraseIdx i) := ⟨Nat.le_trans (List.length_eraseIdx_le l i) h.1, fun x hx => h.2 x (List.mem_of_mem_eraseIdx hx)⟩
theorem kUp_len (l : List Int) {i : Nat} (h : i < l.length) : (((l.eraseIdx i).length : Nat) : Int) = ((l.length - 1 : Nat) : Int) := by
  rw [List.length_eraseIdx_of_lt h]
theorem kG_erase {M M' : gM} {n p : Nat} {t : Int} {F : Nat → List Int} (hF : ∀ q, q < n → kOkL (F q)) (hp : p < n) (hl : rmI (F p) < (F p).length) (h : kG M n 8 t F) (e2 : M' 9 p = (((F p).length - 1 : Nat) : Int)) (e3 : ∀ j, j < (F p).length - 1 → M' 10 (3 * p + j) = if rmI (F p) ≤ j then (F p).getD (j + 1) 0 else (F p).getD j 0) (e4 : ∀ q a, ¬ ((q = 9 ∧ a = p) ∨ (q = 10 ∧ 3 * p ≤ a ∧ a < 3 * p + 3)) → M' q a = M q a) : kG M' n 8 t (kUp F p ((F p).eraseIdx (rmI (F p)))) := by
  refine ⟨(e4 _ _ (by omega)).trans h.1, fun q hq => ?_⟩
  by_cases hqp : q = p
  · subst hqp
    rw [kUp_same]
    refine ⟨by rw [List.length_eraseIdx_of_lt hl]; exact e2, fun j hj => ?_⟩
    rw [List.length_eraseIdx_of_lt hl] at hj
    rw [getD_erase]
    exact e3 j hj
  · rw [kUp_off _ _ hqp]
    have := (hF q hq).1
    refine ⟨(e4 _ _ (by omega)).trans (h.2 q hq).1, fun j hj => ?_⟩
    rw [e4 _ _ (by omega)]
    exact (h.2 q hq).2 j hj
theorem kH_erase {M M' : gM} {n p : Nat} {t : Int} {F : Nat → List Int} (hF : ∀ q, q < n → kOkL (F q)) (hn : n ≤ 7) (hp : p < n) (hl : rmI (F p) < (F p).length) (h : kH M n 0 t F) (e2 : M' 82 (21 + p) = (((F p).length - 1 : Nat) : Int)) (e3 : ∀ j, j < (F p).length - 1 → M' 82 (3 * p + j) = if rmI (F p) ≤ j then (F p).getD (j + 1) 0 else (F p).getD j 0) (e4 : ∀ q a, ¬ (q = 82 ∧ (a = 21 + p ∨ (3 * p ≤ a ∧ a < 3 * p + 3))) → M' q a = M q a) : kH M' n 0 t (kUp F p ((F p).eraseIdx (rmI (F p)))) := by
  refine ⟨(e4 _ _ (by omega)).trans h.1, fun q hq => ?_⟩
  by_cases hqp : q = p
  · subst hqp
    rw [kUp_same]
    refine ⟨by rw [List.length_eraseIdx_of_lt hl, Nat.zero_add]; exact e2, fun j hj => ?_⟩
    rw [List.length_eraseIdx_of_lt hl] at hj
    rw [getD_erase, Nat.zero_add]
    exact e3 j hj
  · rw [kUp_off _ _ hqp]
    have := (hF q hq).1
    refine ⟨(e4 _ _ (by omega)).trans (h.2 q hq).1, fun j hj => ?_⟩
    rw [e4 _ _ (by omega)]
    exact (h.2 q hq).2 j hj
theorem getD_in {l : List Int} (h : kOkL l) {j : Nat} (hj : j < l.length) : 1 ≤ l.getD j 0 ∧ l.getD j 0 ≤ 99 := by
  have : l.getD j 0 ∈ l := by
    rw [List.getD_eq_getElem?_getD, List.getElem?_eq_getElem hj]
    exact List.getElem_mem hj
  exact h.2 _ this
theorem s_xrm (N d n p : Nat) (t : Int) (F : Nat → List Int) (M : gM) (hN : 1000 ≤ N) (hn : n ≤ 7) (hp : p < n) (hF : kOk n t F) (hl : F p ≠ []) (hG : kG M n 8 t F) : ∃ M', gEv N (d + 2) 10 [.inr (.inr 9), .inl (p : Int)] M = some (M', some (.inl (maxL 0 (F p)))) ∧ kG M' n 8 t (kUp F p ((F p).eraseIdx (rmI (F p)))) ∧ ∀ q a, ¬ (q = 9 ∨ q = 10) → M' q a = M q a := by
  obtain ⟨h9, h10⟩ := hG.2 p hp
  have hk := hF.2.2 p hp
  have hk3 := hk.1
  have hlt := rmI_lt hl
  obtain ⟨m1, m2⟩ := rmI_max hk hl
  have hpos : 0 < (F p).length := List.length_pos_iff.mpr hl
  obtain ⟨z', hz', e⟩ := l_rm4 N d p (F p).length (fun j => (F p).getD j 0) M (by omega) hk3 h9 (fun j hj => ⟨h10 j hj, getD_in hk hj⟩) ((F p).length - 1) 1 0 N (by omega) hpos (by omega)
  obtain ⟨M', e1, e2, e3, e4⟩ := l_rm49 N d p (rmI (F p)) (F p).length (fun j => (F p).getD j 0) (maxL 0 (F p)) (by omega) hk3 hlt ((F p).length - (rmI (F p) + 1)) (rmI (F p) + 1) z' M (by omega) (by omega) (by omega) h9 (fun j hj => by
      rw [if_neg (by omega)]
      exact h10 j hj)
  refine ⟨M', ?_, kG_erase hF.2.2 hp hlt hG e2 e3 e4, fun q a hq => e4 q a (by omega)⟩
  have hq : gEv N (d + 2) 10 [.inr (.inr 9), .inl (p : Int)] M = L_X1_removeGreatest_4 (gEv N (d + 1)) N 8 (p : Int) ((0 : Nat) : Int) ((1 : Nat) : Int) M := q_X1_removeGreatest N (d + 1) 8 (p : Int) M kPl8
  rw [hq, e]
  refine Eq.trans ?_ e1
  show L_X1_removeGreatest_49 (gEv N (d + 1)) z' 8 (p : Int) ((rmI (F p) : Nat) : Int) ((F p).getD (rmI (F p)) 0) (((rmI (F p) : Nat) : Int) + 1) M = _
  rw [m1, cast_1]
theorem l_rm69 (C : gCl) (p i m : Nat) (f : Nat → Int) (v : Int) (hp : p < 7) (hm : m ≤ 3) (hi : i < m) : ∀ (r k z : Nat) (M : gM), k + r = m - 1 → i ≤ k → r < z → M 82 (21 + p) = (m : Int) → (∀ j, j < m → M 82 (3 * p + j) = if i ≤ j ∧ j < k then f (j + 1) else f j) →
    ∃ M', L_X10_comfort_69 C z (p : Int) (m : Int) v (i : Int) (k : Int) M = some (M', some (.inl v)) ∧ M' 82 (21 + p) = ((m - 1 : Nat) : Int) ∧ (∀ j, j < m - 1 → M' 82 (3 * p + j) = if i ≤ j then f (j + 1) else f j) ∧ ∀ q a, ¬ (q = 82 ∧ (a = 21 + p ∨ (3 * p ≤ a ∧ a < 3 * p + 3))) → M' q a = M q a := by
  intro r
  induction r with
  | zero =>
    intro k z M hk hik hz h9 h10
    obtain ⟨z, rfl⟩ : ∃ y, z = y + 1 := ⟨z - 1, by omega⟩
    rw [q_X10_comfort_69, gIx_e (x := 21 + (p : Int)) (n := 21 + p) (by omega) (by omega), h9]
    refine ⟨gU M 82 (21 + p) ((m : Int) - 1), by simp (disch := omega) only [gInb_t, gLt_t, gLt_f, gEq_t, gEq_f, gIx_nat, gIx_id, gIf, cond_true, cond_false, gCi_some, gCv_some, gCr_some, gB01_0, gB01_1, gBi_01, gU_same, gU_off, gW_id, Int.toNat_natCast, Int.toNat_add, Int.toNat_mul, Int.reduceToNat, Nat.add_zero, Int.add_zero], by simp (disch := omega) only [gU_same, gU_off]; omega, fun j hj => ?_, fun q a hq => by simp (disch := omega) only [gU_same, gU_off]⟩
    simp (disch := omega) only [gU_same, gU_off]
    rw [h10 j (by omega)]
    by_cases hj2 : i ≤ j
    · rw [if_pos ⟨hj2, by omega⟩, if_pos hj2]
    · rw [if_neg (fun q => hj2 q.1), if_neg hj2]
  | succ r ih =>
    intro k z M hk hik hz h9 h10
    obtain ⟨z, rfl⟩ : ∃ y, z = y + 1 := ⟨z - 1, by omega⟩
    have e := h10 (k + 1) (by omega)
    rw [if_neg (by omega)] at e
    obtain ⟨M', e1, e2, e3, e4⟩ := ih (k + 1) z (gU M 82 (3 * p + k) (f (k + 1))) (by omega) (by omega) (by omega) (by simp (disch := omega) only [gU_same, gU_off]; exact h9) (fun j hj => by
      by_cases hjk : j = k
      · subst hjk
        rw [gU_same, if_pos (by omega)]
      · rw [gU_off _ _ (by omega), h10 j hj]
        have : (i ≤ j ∧ j < k + 1) ↔ (i ≤ j ∧ j < k) := by omega
        simp only [this])
    refine ⟨M', ?_, e2, e3, fun q a hq => (e4 q a hq).trans (by simp (disch := omega) only [gU_same, gU_off])⟩
    rw [q_X10_comfort_69, gIx_e (x := (0 + 3 * (p : Int)) + (k : Int)) (n := 3 * p + k) (by omega) (by omega), gIx_e (x := ((0 + 3 * (p : Int)) + (k : Int)) + 1) (n := 3 * p + (k + 1)) (by omega) (by omega), e, cast_1 k, e1]
    simp (disch := omega) only [gInb_t, gLt_t, gLt_f, gEq_t, gEq_f, gIx_nat, gIx_id, gIf, cond_true, cond_false, gCi_some, gCv_some, gCr_some, gB01_0, gB01_1, gBi_01, gU_same, gU_off, gW_id, Int.toNat_natCast, Int.toNat_add, Int.toNat_mul, Int.reduceToNat, Nat.add_zero, Int.add_zero]
theorem l_rm42 (C : gCl) (p i m : Nat) (x2 : Int) (f : Nat → Int) (M : gM) (hp : p < 7) (hm : m ≤ 3) (hi : i < m) (h10 : ∀ j, j < m → M 82 (3 * p + j) = f j ∧ 1 ≤ f j ∧ f j ≤ 99) (hf : ∀ j, j < i → f j ≠ f i) : ∀ (r k z : Nat), k + r = i → r + 10 < z → ∃ z', 10 ≤ z' ∧ L_X10_comfort_42 C z (p : Int) x2 (f i) (k : Int) M = L_X10_comfort_69 C z' (p : Int) x2 (f i) (i : Int) (i : Int) M := by
  intro r
  have hfi := h10 i hi
  induction r with
  | zero =>
    intro k z hk hz
    obtain ⟨z, rfl⟩ : ∃ y, z = y + 1 := ⟨z - 1, by omega⟩
    refine ⟨z, by omega, ?_⟩
    have : k = i := by omega
    subst this
    rw [q_X10_comfort_42, gIx_e (x := (0 + 3 * (p : Int)) + (k : Int)) (n := 3 * p + k) (by omega) (by omega), hfi.1]
    simp (disch := omega) only [gInb_t, gLt_t, gLt_f, gEq_t, gEq_f, gIx_nat, gIx_id, gIf, cond_true, cond_false, gCi_some, gCv_some, gCr_some, gB01_0, gB01_1, gBi_01, gU_same, gU_off, gW_id, Int.toNat_natCast, Int.toNat_add, Int.toNat_mul, Int.reduceToNat, Nat.add_zero, Int.add_zero]
  | succ r ih =>
    intro k z hk hz
    obtain ⟨z, rfl⟩ : ∃ y, z = y + 1 := ⟨z - 1, by omega⟩
    have hk2 := h10 k (by omega)
    have hne := hf k (by omega)
    rw [q_X10_comfort_42, gIx_e (x := (0 + 3 * (p : Int)) + (k : Int)) (n := 3 * p + k) (by omega) (by omega), hk2.1, cast_1 k]
    simp (disch := omega) only [gInb_t, gLt_t, gLt_f, gEq_t, gEq_f, gIx_nat, gIx_id, gIf, cond_true, cond_false, gCi_some, gCv_some, gCr_some, gB01_0, gB01_1, gBi_01, gU_same, gU_off, gW_id, Int.toNat_natCast, Int.toNat_add, Int.toNat_mul, Int.reduceToNat, Nat.add_zero, Int.add_zero]
    exact ih (k + 1) z (by omega) (by omega)
theorem p_comfort (N d : Nat) (a : Int) (M : gM) (hN : 100000 ≤ N) (hI : kInv M) (ha : rng a) : kPair N (d + 20) 64 136 [.inl a] M := by
  obtain ⟨n, K, t, F, G, c, A, B, c', A', B', l, s, h⟩ := id hI
  obtain ⟨hP, hW, hT, hQ, hQ', hX, hU, hKp, hS, hD, hw, hz⟩ := id h
  have hn := hP.1
  have h6 := hP.2.1
  have m29 := hP.2.2.1
  have hKx := iPpl_kx hP
  have hKm := iPpl_km hP
  obtain ⟨hOk, hG8, hH0⟩ := id hW
  obtain ⟨o1, o2, o3⟩ := id hOk
  have c1 := q_X9_comfort N (d + 19) a M
  rw [s_xhas _ _ n _ _ hn h6 ha, gCi_some] at c1
  have c2 := q_X10_comfort N (d + 19) a M
  rw [s_mhas _ _ n _ _ hn m29 ha, gCi_some] at c2
  by_cases hp : 0 ≤ a ∧ a < (n : Int)
  · rw [decide_eq_true hp] at c1 c2
    obtain ⟨p, rfl⟩ : ∃ p : Nat, a = (p : Int) := ⟨a.toNat, by omega⟩
    have hpn : p < n := by omega
    have x9 := (hG8.2 p hpn).1
    have m21 : M 82 (21 + p) = ((F p).length : Int) := by
      have := (hH0.2 p hpn).1
      rw [Nat.zero_add] at this
      exact this
    have ip := gIx_e (x := (p : Int)) (n := p) rfl (by omega)
    have i21 := gIx_e (x := 21 + (p : Int)) (n := 21 + p) (by omega) (by omega)
    have hfp := o3 p hpn
    have hl3 := hfp.1
    rw [ip, x9] at c1
    rw [i21, m21] at c2
    by_cases h1 : F p = []
    · have hz : (F p).length = 0 := by rw [h1]; rfl
      refine kPair_ro (-4) hI (c1.trans ?_) (c2.trans ?_)
      · simp (disch := omega) only [gInb_t, gLt_t, gLt_f, gEq_t, gEq_f, gIx_nat, gIx_id, gIf, cond_true, cond_false, gCi_some, gCv_some, gCr_some, gB01_0, gB01_1, gBi_01, gU_same, gU_off, gW_id, Int.toNat_natCast, Int.toNat_add, Int.toNat_mul, Int.reduceToNat, Nat.add_zero, Int.add_zero, bI_eq0, bI_B, Bool.not_true, Bool.not_false, bI_t, bI_f]
      · simp (disch := omega) only [gInb_t, gLt_t, gLt_f, gEq_t, gEq_f, gIx_nat, gIx_id, gIf, cond_true, cond_false, gCi_some, gCv_some, gCr_some, gB01_0, gB01_1, gBi_01, gU_same, gU_off, gW_id, Int.toNat_natCast, Int.toNat_add, Int.toNat_mul, Int.reduceToNat, Nat.add_zero, Int.add_zero, bI_eq0, bI_B, Bool.not_true, Bool.not_false, bI_t, bI_f]
    · have hpos : 0 < (F p).length := List.length_pos_iff.mpr h1
      have hlt := rmI_lt h1
      obtain ⟨m1, m2⟩ := rmI_max hfp h1
      obtain ⟨u, lt, T, G', u1, u2, u3⟩ := iUnd_to hU
      obtain ⟨Ma, a1, a2, a3⟩ := s_xrem N (d + 17) n u lt T G' t F M hn u1 hOk u2 hG8
      have hGa : kG Ma n 8 t F := kG_fr hG8 o3 hn (fun q i hq => a3 q i (by omega))
      obtain ⟨Mb, b1, b2, b3⟩ := s_xrm N (d + 17) n p t F Ma (by omega) hn hpn hOk h1 hGa
      have fb : ∀ q i, ¬ ((8 ≤ q ∧ q ≤ 10) ∨ (20 ≤ q ∧ q < 46)) → Mb q i = M q i := fun q i hq => (b3 q i (by omega)).trans (a3 q i (by omega))
      have hOk2 : kOk n t (kUp F p ((F p).eraseIdx (rmI (F p)))) := kOk_up hOk (kOkL_erase hfp _)
      have e1 : gEv N (d + 20) 64 [.inr (.inr 1), .inl (p : Int)] M = some (Mb, some (.inl (maxL 0 (F p)))) := by
        refine c1.trans ?_
        rw [a1, gCv_some, b1, gCi_some]
        simp (disch := omega) only [gInb_t, gLt_t, gLt_f, gEq_t, gEq_f, gIx_nat, gIx_id, gIf, cond_true, cond_false, gCi_some, gCv_some, gCr_some, gB01_0, gB01_1, gBi_01, gU_same, gU_off, gW_id, Int.toNat_natCast, Int.toNat_add, Int.toNat_mul, Int.reduceToNat, Nat.add_zero, Int.add_zero, bI_eq0, bI_B, Bool.not_true, Bool.not_false, bI_t, bI_f]
      have hXb := uX_fr (M' := Mb) a2 (uOk_push u1 hOk) hn (fun q i hq => b3 q i (by omega))
      have hMb2 : uM Mb n u T G' := uM_fr u3 u1 hn (fun q i hq => fb q i (by omega))
      have hHb : kH Mb n 0 t F := kH_fr hH0 o3 hn (fun i h1 h2 => fb _ _ (by omega))
      obtain ⟨Mc, g1, g2, g3⟩ := s_mrem N (d + 17) n u lt T G' t F Mb (by omega) hn u1 hOk hMb2 hHb
      have hHc : kH Mc n 0 t F := kH_fr hHb o3 hn (fun i h1 h2 => g3 _ _ (by omega))
      obtain ⟨w21, w0⟩ := hHc.2 p hpn
      have w0' : ∀ j, j < (F p).length → Mc 82 (3 * p + j) = (F p).getD j 0 := fun j hj => by
        have := w0 j hj
        rw [Nat.zero_add] at this
        exact this
      rw [Nat.zero_add] at w21
      obtain ⟨z', hz', f1⟩ := l_rm42 (gEv N (d + 19)) p (rmI (F p)) (F p).length ((F p).length : Int) (fun j => (F p).getD j 0) Mc (by omega) hl3 hlt (fun j hj => ⟨w0' j hj, getD_in hfp hj⟩) (fun j hj => by
        show (F p).getD j 0 ≠ (F p).getD (rmI (F p)) 0
        rw [m1]
        exact m2 j hj) (rmI (F p)) 0 N (by omega) (by omega)
      obtain ⟨Md, d1, d2, d3, d4⟩ := l_rm69 (gEv N (d + 19)) p (rmI (F p)) (F p).length (fun j => (F p).getD j 0) ((F p).getD (rmI (F p)) 0) (by omega) hl3 hlt ((F p).length - 1 - rmI (F p)) (rmI (F p)) z' Mc (by omega) (by omega) (by omega) w21 (fun j hj => by
        rw [if_neg (by omega)]
        exact w0' j hj)
      have hHd := kH_erase o3 hn hpn hlt hHc d2 d3 d4
      have hgr : gEv N (d + 19) 118 [.inr (.inr 82), .inl 0, .inl (p : Int)] Mc = some (Mc, some (.inl (maxL 0 (F p)))) := by
        have q1 : gEv N (d + 19) 118 [.inr (.inr 82), .inl 0, .inl (p : Int)] Mc = _ := s_greatestOf N (d + 18) 0 p (F p).length Mc (by omega) (by omega) (by omega) (by rw [Nat.zero_add]; exact w21) hl3 (fun j hj => by
          rw [Nat.zero_add, w0' j hj]
          have := getD_in hfp hj
          omega)
        rw [q1, hMax_L, gAtL_list w0]
      have e2 : gEv N (d + 20) 136 [.inr (.inr 82), .inl (p : Int)] Mb = some (Md, some (.inl (maxL 0 (F p)))) := by
        have c4 := q_X10_comfort N (d + 19) (p : Int) Mb
        have m21b : Mb 82 (21 + p) = ((F p).length : Int) := (fb _ _ (by omega)).trans m21
        rw [s_mhas _ _ n _ _ hn (by rw [fb _ _ (by omega)]; exact m29) ha, gCi_some, decide_eq_true hp, i21, m21b, g1, gCv_some, hgr, gCi_some] at c4
        refine c4.trans ?_
        rw [← m1]
        have f1' : L_X10_comfort_42 (gEv N (d + 19)) N (p : Int) ((F p).length : Int) ((F p).getD (rmI (F p)) 0) 0 Mc = _ := f1
        rw [f1', d1]
        simp (disch := omega) only [gInb_t, gLt_t, gLt_f, gEq_t, gEq_f, gIx_nat, gIx_id, gIf, cond_true, cond_false, gCi_some, gCv_some, gCr_some, gB01_0, gB01_1, gBi_01, gU_same, gU_off, gW_id, Int.toNat_natCast, Int.toNat_add, Int.toNat_mul, Int.reduceToNat, Nat.add_zero, Int.add_zero, bI_eq0, bI_B, Bool.not_true, Bool.not_false, bI_t, bI_f]
      have fd : ∀ q i, ¬ ((8 ≤ q ∧ q ≤ 10) ∨ (20 ≤ q ∧ q < 46) ∨ (q = 82 ∧ i < 29) ∨ (q = 82 ∧ 124 ≤ i ∧ i < 356) ∨ (q = 81 ∧ i = 1)) → Md q i = M q i := fun q i hq => ((d4 q i (by omega)).trans (g3 q i (by omega))).trans (fb q i (by omega))
      refine ⟨_, _, _, e1, e2, fun i => fb _ _ (by omega), fb _ _ (by omega), n, K, t, _, G, c, A, B, c', A', B', l, s, kI_now ⟨hOk2, kG_fr b2 hOk2.2.2 hn (fun q i hq => (d4 q i (by omega)).trans (g3 q i (by omega))), hHd⟩ (iUnd_of (uOk_push u1 hOk) (uX_fr hXb (uOk_push u1 hOk) hn (fun q i hq => (d4 q i (by omega)).trans (g3 q i (by omega)))) (uM_fr g2 (uOk_push u1 hOk) hn (fun q i hq => d4 q i (by omega)))) h (fun q i hq => fd q i (by omega))⟩
  · rw [decide_eq_false hp] at c1 c2
    refine kPair_ro (-2) hI (c1.trans ?_) (c2.trans ?_)
    · simp (disch := omega) only [gInb_t, gLt_t, gLt_f, gEq_t, gEq_f, gIx_nat, gIx_id, gIf, cond_true, cond_false, gCi_some, gCv_some, gCr_some, gB01_0, gB01_1, gBi_01, gU_same, gU_off, gW_id, Int.toNat_natCast, Int.toNat_add, Int.toNat_mul, Int.reduceToNat, Nat.add_zero, Int.add_zero, bI_eq0, bI_B, Bool.not_true, Bool.not_false, bI_t, bI_f]
    · simp (disch := omega) only [gInb_t, gLt_t, gLt_f, gEq_t, gEq_f, gIx_nat, gIx_id, gIf, cond_true, cond_false, gCi_some, gCv_some, gCr_some, gB01_0, gB01_1, gBi_01, gU_same, gU_off, gW_id, Int.toNat_natCast, Int.toNat_add, Int.toNat_mul, Int.reduceToNat, Nat.add_zero, Int.add_zero, bI_eq0, bI_B, Bool.not_true, Bool.not_false, bI_t, bI_f]
theorem uOk_pop {n u lt : Nat} {T : Nat → Int} {G : Nat → Nat → List Int} (h : uOk n u lt T G) : uOk n (u - 1) ((lt + 7) % 8) (fun j => T (j + 1)) (fun j => G (j + 1)) := ⟨by have := h.1; omega, by omega, fun j hj => h.2.2 (j + 1) (by omega)⟩
theorem p_undo (N d : Nat) (M : gM) (hN : 100000 ≤ N) (hI : kInv M) : kPair N (d + 20) 65 137 [] M := by
  obtain ⟨n, K, t, F, G, c, A, B, c', A', B', l, s, h⟩ := id hI
  obtain ⟨hP, hW, hT, hQ, hQ', hX, hU, hKp, hS, hD, hw, hz⟩ := id h
  have hn := hP.1
  have h6 := hP.2.1
  have m29 := hP.2.2.1
  have hKx := iPpl_kx hP
  have hKm := iPpl_km hP
  obtain ⟨hOk, hG8, hH0⟩ := id hW
  obtain ⟨u, lt, T, G', u1, u2, u3⟩ := iUnd_to hU
  obtain ⟨v1, v2, v3⟩ := id u1
  obtain ⟨y1, y2, y3⟩ := id u2
  obtain ⟨z1, z2⟩ := id u3
  have c1 := q_X9_undo N (d + 19) M
  rw [y1] at c1
  by_cases h0 : u = 0
  · have c2 := q_X10_undo N (d + 19) M
    rw [z1] at c2
    refine kPair_ro (-4) hI (c1.trans ?_) (c2.trans ?_)
    · simp (disch := omega) only [gInb_t, gLt_t, gLt_f, gEq_t, gEq_f, gIx_nat, gIx_id, gIf, cond_true, cond_false, gCi_some, gCv_some, gCr_some, gB01_0, gB01_1, gBi_01, gU_same, gU_off, gW_id, Int.toNat_natCast, Int.toNat_add, Int.toNat_mul, Int.reduceToNat, Nat.add_zero, Int.add_zero, bI_eq0, bI_B, Bool.not_true, Bool.not_false, bI_t, bI_f]
    · simp (disch := omega) only [gInb_t, gLt_t, gLt_f, gEq_t, gEq_f, gIx_nat, gIx_id, gIf, cond_true, cond_false, gCi_some, gCv_some, gCr_some, gB01_0, gB01_1, gBi_01, gU_same, gU_off, gW_id, Int.toNat_natCast, Int.toNat_add, Int.toNat_mul, Int.reduceToNat, Nat.add_zero, Int.add_zero, bI_eq0, bI_B, Bool.not_true, Bool.not_false, bI_t, bI_f]
  · have hO := v3 0 (by omega)
    have r1 := s_restore N (d + 17) lt u M v2 v1 (by omega) y2 y1
    have hlt : (lt + 8 - 0) % 8 = lt := by omega
    have hG0 := y3 0 (by omega)
    rw [hlt] at hG0
    have hb := kBec_G kPl8 (kPlj v2) (by omega) hn hO.2.2 hG0
    generalize hMb : gU (gU (kBec M 8 (22 + 3 * lt)) 20 1 (((lt + 7) % 8 : Nat) : Int)) 20 0 ((u - 1 : Nat) : Int) = Mb at r1
    have fb : ∀ q i, ¬ ((8 ≤ q ∧ q ≤ 10) ∨ (q = 20 ∧ i < 2)) → Mb q i = M q i := fun q i hq => by
      rw [← hMb, gU_off _ _ (by omega), gU_off _ _ (by omega), kBec_fr _ _ (by omega)]
    have fb2 : ∀ q i, q ≠ 20 → Mb q i = kBec M 8 (22 + 3 * lt) q i := fun q i hq => by
      rw [← hMb, gU_off _ _ (by omega), gU_off _ _ (by omega)]
    have b20 : Mb 20 0 = ((u - 1 : Nat) : Int) := by rw [← hMb, gU_same]
    have b21 : Mb 20 1 = (((lt + 7) % 8 : Nat) : Int) := by rw [← hMb]; simp (disch := omega) only [gU_same, gU_off]
    have e1 : gEv N (d + 20) 65 [.inr (.inr 1)] M = some (Mb, some (.inl ((u - 1 : Nat) : Int))) := by
      refine c1.trans ?_
      rw [r1, gCv_some, b20]
      simp (disch := omega) only [gInb_t, gLt_t, gLt_f, gEq_t, gEq_f, gIx_nat, gIx_id, gIf, cond_true, cond_false, gCi_some, gCv_some, gCr_some, gB01_0, gB01_1, gBi_01, gU_same, gU_off, gW_id, Int.toNat_natCast, Int.toNat_add, Int.toNat_mul, Int.reduceToNat, Nat.add_zero, Int.add_zero, bI_eq0, bI_B, Bool.not_true, Bool.not_false, bI_t, bI_f]
    have c2 := q_X10_undo N (d + 19) Mb
    have z1b : Mb 81 1 = (u : Int) := (fb _ _ (by omega)).trans z1
    have ec : gEv N (d + 19) 114 [.inr (.inr 82), .inl ((124 + 29 * (u - 1) : Nat) : Int), .inl 0, .inl 29] (gU Mb 81 1 ((u : Int) - 1)) = some (gCp (gU Mb 81 1 ((u : Int) - 1)) 82 (124 + 29 * (u - 1)) 82 0 29, none) := s_copyRow N (d + 18) (124 + 29 * (u - 1)) 0 29 _ (by omega) (by omega) (by omega) (by omega)
    have e2 : gEv N (d + 20) 137 [.inr (.inr 82)] Mb = some (gCp (gU Mb 81 1 ((u : Int) - 1)) 82 (124 + 29 * (u - 1)) 82 0 29, some (.inl ((u - 1 : Nat) : Int))) := by
      refine c2.trans ?_
      rw [z1b, gU_same, show (124 : Int) + 29 * ((u : Int) - 1) = ((124 + 29 * (u - 1) : Nat) : Int) by omega, ec, gCv_some, gCp_off (by omega), gU_same, show (u : Int) - 1 = ((u - 1 : Nat) : Int) by omega]
      simp (disch := omega) only [gInb_t, gLt_t, gLt_f, gEq_t, gEq_f, gIx_nat, gIx_id, gIf, cond_true, cond_false, gCi_some, gCv_some, gCr_some, gB01_0, gB01_1, gBi_01, gU_same, gU_off, gW_id, Int.toNat_natCast, Int.toNat_add, Int.toNat_mul, Int.reduceToNat, Nat.add_zero, Int.add_zero, bI_eq0, bI_B, Bool.not_true, Bool.not_false, bI_t, bI_f]
    generalize hMd : gCp (gU Mb 81 1 ((u : Int) - 1)) 82 (124 + 29 * (u - 1)) 82 0 29 = Md at e2
    have fd : ∀ q i, ¬ ((q = 81 ∧ i = 1) ∨ (q = 82 ∧ i < 29)) → Md q i = Mb q i := fun q i hq => by
      rw [← hMd, gCp_off (by omega), gU_off _ _ (by omega)]
    have hH0' : kH Mb n (124 + 29 * (u - 1)) (T 0) (G' 0) := kH_fr (by have := z2 0 (by omega); rw [Nat.sub_zero] at this; exact this) hO.2.2 hn (fun i h1 h2 => fb _ _ (by omega))
    have hHd : kH Md n 0 (T 0) (G' 0) := by
      rw [← hMd]
      exact kCp_row (kH_fr hH0' hO.2.2 hn (fun i h1 h2 => by simp (disch := omega) only [gU_same, gU_off])) hO.2.2 hn 29 (by omega)
    have hup := uOk_pop u1
    refine ⟨_, _, _, e1, e2, fun i => fb _ _ (by omega), fb _ _ (by omega), n, K, T 0, G' 0, G, c, A, B, c', A', B', l, s, kI_now ⟨hO, kG_fr hb hO.2.2 hn (fun q i hq => (fd q i (by omega)).trans (fb2 q i (by omega))), hHd⟩ (iUnd_of hup ⟨(fd _ _ (by omega)).trans b20, (fd _ _ (by omega)).trans b21, fun j hj => ?_⟩ ⟨?_, fun j hj => ?_⟩) h (fun q i hq => (fd q i (by omega)).trans (fb q i (by omega)))⟩
    · have := y3 (j + 1) (by omega)
      have e : ((lt + 7) % 8 + 8 - j) % 8 = (lt + 8 - (j + 1)) % 8 := by omega
      rw [e]
      exact kG_fr this (v3 _ (by omega)).2.2 hn (fun q i hq => (fd q i (by omega)).trans (fb q i (by omega)))
    · rw [← hMd, gCp_off (by omega), gU_same]; omega
    · have := z2 (j + 1) (by omega)
      have e : 124 + 29 * (u - 1 - 1 - j) = 124 + 29 * (u - 1 - (j + 1)) := by omega
      rw [e]
      exact kH_fr this (v3 _ (by omega)).2.2 hn (fun i h1 h2 => (fd _ _ (by omega)).trans (fb _ _ (by omega)))
