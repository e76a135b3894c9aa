-- 89: house
theorem at46_0 (C : gCl) (n : Nat) (M : gM) : L_X9_beginAsTold_46 C (n + 1) 0 M = L_X9_beginAsTold_46 C n 1 (gU M 53 0 0) := by
  rw [q_X9_beginAsTold_46, gLt_t (by omega) (by omega) (by omega), cond_true, gInb_t (by omega) (by omega) (by omega), gIf_t, gB01_0, gIf_t, gIx_e (x := 0) (n := 0) rfl (by omega)]
  rfl
theorem at46_1 (C : gCl) (n : Nat) (M : gM) : L_X9_beginAsTold_46 C (n + 1) 1 M = L_X9_beginAsTold_46 C n 2 (gU M 53 1 0) := by
  rw [q_X9_beginAsTold_46, gLt_t (by omega) (by omega) (by omega), cond_true, gInb_t (by omega) (by omega) (by omega), gIf_t, gB01_0, gIf_t, gIx_e (x := 1) (n := 1) rfl (by omega)]
  rfl
theorem at46_2 (C : gCl) (n : Nat) (M : gM) : L_X9_beginAsTold_46 C (n + 1) 2 M = L_X9_beginAsTold_66 C n 0 M := by
  rw [q_X9_beginAsTold_46, gLt_f (by omega) (by omega) (by omega), cond_false]
theorem gEq_n {x y : Int} (h : x ≠ y ∧ -2147483648 ≤ x ∧ x < 2147483648 ∧ -2147483648 ≤ y ∧ y < 2147483648) : gEq x y = false := gEq_f h.1 h.2.1 h.2.2.1 h.2.2.2.1 h.2.2.2.2
theorem at66_0 (C : gCl) (n : Nat) (M : gM) : L_X9_beginAsTold_66 C (n + 1) 0 M = L_X9_beginAsTold_66 C n 1 (gU M 69 0 0) := by
  rw [q_X9_beginAsTold_66, gLt_t (by omega) (by omega) (by omega), cond_true, gInb_t (by omega) (by omega) (by omega), gIf_t, gEq_n (x := 0) (y := ((3 : Nat) : Int)) (by omega), cond_false, gEq_n (x := 0) (y := ((2 : Nat) : Int)) (by omega), cond_false, gEq_n (x := 0) (y := ((1 : Nat) : Int)) (by omega), cond_false, gEq_t (x := 0) (y := ((0 : Nat) : Int)) (by omega), cond_true, gB01_0, gIf_t]
  rfl
theorem at66_1 (C : gCl) (n : Nat) (M : gM) : L_X9_beginAsTold_66 C (n + 1) 1 M = L_X9_beginAsTold_66 C n 2 (gU M 72 0 0) := by
  rw [q_X9_beginAsTold_66, gLt_t (by omega) (by omega) (by omega), cond_true, gInb_t (by omega) (by omega) (by omega), gIf_t, gEq_n (x := 1) (y := ((3 : Nat) : Int)) (by omega), cond_false, gEq_n (x := 1) (y := ((2 : Nat) : Int)) (by omega), cond_false, gEq_t (x := 1) (y := ((1 : Nat) : Int)) (by omega), cond_true, gB01_0, gIf_t]
  rfl
theorem at66_2 (C : gCl) (n : Nat) (M : gM) : L_X9_beginAsTold_66 C (n + 1) 2 M = L_X9_beginAsTold_66 C n 3 (gU M 75 0 0) := by
  rw [q_X9_beginAsTold_66, gLt_t (by omega) (by omega) (by omega), cond_true, gInb_t (by omega) (by omega) (by omega), gIf_t, gEq_n (x := 2) (y := ((3 : Nat) : Int)) (by omega), cond_false, gEq_t (x := 2) (y := ((2 : Nat) : Int)) (by omega), cond_true, gB01_0, gIf_t]
  rfl
theorem at66_3 (C : gCl) (n : Nat) (M : gM) : L_X9_beginAsTold_66 C (n + 1) 3 M = L_X9_beginAsTold_66 C n 4 (gU M 78 0 0) := by
  rw [q_X9_beginAsTold_66, gLt_t (by omega) (by omega) (by omega), cond_true, gInb_t (by omega) (by omega) (by omega), gIf_t, gEq_t (x := 3) (y := ((3 : Nat) : Int)) (by omega), cond_true, gB01_0, gIf_t]
  rfl
theorem at66_4 (C : gCl) (n : Nat) (M : gM) : L_X9_beginAsTold_66 C (n + 1) 4 M = some (gU M 1 1 0, none) := by
  rw [q_X9_beginAsTold_66, gLt_f (by omega) (by omega) (by omega), cond_false]
theorem at46_all (C : gCl) (z : Nat) (M : gM) (hz : 100 ≤ z) : L_X9_beginAsTold_46 C z 0 M = some (gU (gU (gU (gU (gU (gU (gU M 53 0 0) 53 1 0) 69 0 0) 72 0 0) 75 0 0) 78 0 0) 1 1 0, none) := by
  obtain ⟨n, rfl⟩ : ∃ n, z = n + 1 + 1 + 1 + 1 + 1 + 1 + 1 + 1 := ⟨z - 8, by omega⟩
  rw [at46_0, at46_1, at46_2, at66_0, at66_1, at66_2, at66_3, at66_4]
def kPb (M : gM) (g h : Nat) : gM := gCp (gCp (gU M g 0 (M h 0)) (h + 1) 0 (g + 1) 0 12) (h + 2) 0 (g + 2) 0 12
theorem s_pbecome (N d : Nat) (M : gM) : gEv N (d + 1) 22 [.inr (.inr 15), .inr (.inr 18)] M = some (kPb M 14 17, none) := by
  have e := q_X4_become N d 14 17 M (Or.inl rfl) (Or.inr rfl)
  have e0 : gW 0 = 0 := gW_id (by omega) (by omega)
  have e12 : gW 12 = 12 := gW_id (by omega) (by omega)
  rw [e0, e12, gIx_e (x := 0) (n := 0) rfl (by omega), gIx_e (x := 12) (n := 12) rfl (by omega)] at e
  exact e
/-- behind a text: all as it was told -/
def asT (M : gM) (T : TT) (M' : gM) : Prop := kG M' T.1 8 0 T.2.2.1 ∧ M' 14 0 = (T.2.2.2.1 : Int) ∧ (∀ k, k < T.2.2.2.1 → M' 15 k = ((T.2.2.2.2.1 k : Nat) : Int) ∧ M' 16 k = ((T.2.2.2.2.2 k : Nat) : Int)) ∧ M' 20 0 = 0 ∧ M' 54 0 = 0 ∧ M' 53 0 = 0 ∧ M' 53 1 = 0 ∧ (M' 69 0 = 0 ∧ M' 72 0 = 0 ∧ M' 75 0 = 0 ∧ M' 78 0 = 0) ∧ M' 1 1 = 0 ∧ ∀ q i, ¬ ((8 ≤ q ∧ q ≤ 10) ∨ (14 ≤ q ∧ q ≤ 16) ∨ (q = 20 ∧ i = 0) ∨ (q = 54 ∧ i = 0) ∨ q = 53 ∨ ((q = 69 ∨ q = 72 ∨ q = 75 ∨ q = 78) ∧ i = 0) ∨ (q = 1 ∧ i = 1)) → M' q i = M q i
theorem s_asTold (N d : Nat) (T : TT) (M : gM) (hN : 2000 ≤ N) (h : tdX M T) (hO : tdO T) : ∃ M', gEv N (d + 2) 88 [.inr (.inr 1)] M = some (M', none) ∧ asT M T M' := by
  obtain ⟨x1, x2, x3, x4, x5⟩ := id h
  obtain ⟨o1, o2, o3, o4⟩ := id hO
  have hf : ∀ p, p < T.1 → kOkL (T.2.2.1 p) := fun p hp => (o3 p hp).2
  have e := q_X9_beginAsTold N (d + 1) M
  have c7 : gEv N (d + 1) 7 [.inr (.inr 9), .inr (.inr 12)] M = some (kBec M 8 11, none) := s_bec N d 8 11 M kPl8 (Or.inr (Or.inl rfl))
  have g8 : kG (kBec M 8 11) T.1 8 0 T.2.2.1 := kBec_G kPl8 (Or.inr (Or.inl rfl)) (by omega) o1 hf x3
  have f8 : ∀ q i, ¬ (q = 8 ∨ q = 9 ∨ q = 10) → kBec M 8 11 q i = M q i := fun q i hq => kBec_fr q i (by omega)
  rw [c7, gCv_some] at e
  generalize kBec M 8 11 = M1 at e g8 f8
  rw [s_pbecome N d M1, gCv_some, at46_all _ _ _ (by omega)] at e
  have f2 : ∀ q i, ¬ (14 ≤ q ∧ q ≤ 16) → kPb M1 14 17 q i = M1 q i := fun q i hq => by
    unfold kPb
    rw [gCp_off (by omega), gCp_off (by omega), gU_off _ _ (by omega)]
  have p0 : kPb M1 14 17 14 0 = M1 17 0 := by
    unfold kPb
    rw [gCp_off (by omega), gCp_off (by omega), gU_same]
  have p1 : ∀ k, k < 12 → kPb M1 14 17 15 k = M1 18 k ∧ kPb M1 14 17 16 k = M1 19 k := fun k hk => by
    unfold kPb
    refine ⟨?_, ?_⟩
    · rw [gCp_off (by omega), gCp_in rfl (by omega) (by omega), gU_off _ _ (by omega), Nat.zero_add, Nat.sub_zero]
    · rw [gCp_in rfl (by omega) (by omega), gCp_off (by omega), gU_off _ _ (by omega), Nat.zero_add, Nat.sub_zero]
  generalize kPb M1 14 17 = M2 at e f2 p0 p1
  have f3 : ∀ q i, ¬ ((q = 20 ∧ i = 0) ∨ (q = 54 ∧ i = 0) ∨ q = 53 ∨ ((q = 69 ∨ q = 72 ∨ q = 75 ∨ q = 78) ∧ i = 0) ∨ (q = 1 ∧ i = 1)) → gU (gU (gU (gU (gU (gU (gU (gU (gU M2 20 0 0) 54 0 0) 53 0 0) 53 1 0) 69 0 0) 72 0 0) 75 0 0) 78 0 0) 1 1 0 q i = M2 q i := fun q i hq => by
    rw [gU_off _ _ (by omega), gU_off _ _ (by omega), gU_off _ _ (by omega), gU_off _ _ (by omega), gU_off _ _ (by omega), gU_off _ _ (by omega), gU_off _ _ (by omega), gU_off _ _ (by omega), gU_off _ _ (by omega)]
  refine ⟨_, e, kG_fr g8 hf o1 (fun q i hq => (f3 q i (by omega)).trans (f2 q i (by omega))), ?_, fun k hk => ⟨?_, ?_⟩, ?_, ?_, ?_, ?_, ⟨?_, ?_, ?_, ?_⟩, ?_, fun q i hq => ?_⟩
  · rw [f3 _ _ (by omega), p0, f8 _ _ (by omega)]
    exact x4
  · rw [f3 _ _ (by omega), (p1 k (by omega)).1, f8 _ _ (by omega)]
    exact (x5 k hk).1
  · rw [f3 _ _ (by omega), (p1 k (by omega)).2, f8 _ _ (by omega)]
    exact (x5 k hk).2
  · simp [gU]
  · simp [gU]
  · simp [gU]
  · simp [gU]
  · simp [gU]
  · simp [gU]
  · simp [gU]
  · simp [gU]
  · simp [gU]
  · rw [f3 q i (by omega), f2 q i (by omega), f8 q i (by omega)]
theorem mh57_s (C : gCl) (n k : Nat) (M : gM) (hk : k < 4) : L_X10_house_57 C (n + 1) (k : Int) M = L_X10_house_57 C n ((k + 1 : Nat) : Int) (gU M 88 k (-1)) := by
  rw [q_X10_house_57, gLt_t (by omega) (by omega) (by omega), cond_true, gInb_t (by omega) (by omega) (by omega), gIf_t, gIx_e (x := (k : Int)) (n := k) rfl (by omega), cast_1 k]
theorem mh57_all (C : gCl) (z : Nat) (M : gM) (hz : 100 ≤ z) : L_X10_house_57 C z 0 M = some (gU (gU (gU (gU M 88 0 (-1)) 88 1 (-1)) 88 2 (-1)) 88 3 (-1), some (.inl (M 81 16))) := by
  obtain ⟨n, rfl⟩ : ∃ n, z = n + 1 + 1 + 1 + 1 + 1 := ⟨z - 5, by omega⟩
  have h0 := mh57_s C (n + 1 + 1 + 1 + 1) 0 M (by omega)
  have h1 := mh57_s C (n + 1 + 1 + 1) 1 (gU M 88 0 (-1)) (by omega)
  have h2 := mh57_s C (n + 1 + 1) 2 (gU (gU M 88 0 (-1)) 88 1 (-1)) (by omega)
  have h3 := mh57_s C (n + 1) 3 (gU (gU (gU M 88 0 (-1)) 88 1 (-1)) 88 2 (-1)) (by omega)
  refine (h0.trans (h1.trans (h2.trans h3))).trans ?_
  rw [q_X10_house_57, gLt_f (by omega) (by omega) (by omega), cond_false]
  rfl
/-- the model, behind a text that can stand -/
def asM (M : gM) (T : TT) (M' : gM) : Prop := tdM M' T ∧ M' 82 29 = (T.1 : Int) ∧ (∀ p, p < T.1 → M' 82 (30 + p) = ((T.2.1 p : Nat) : Int)) ∧ kH M' T.1 0 0 T.2.2.1 ∧ M' 82 37 = (T.2.2.2.1 : Int) ∧ (∀ k, k < T.2.2.2.1 → M' 82 (38 + 2 * k) = ((T.2.2.2.2.1 k : Nat) : Int) ∧ M' 82 (39 + 2 * k) = ((T.2.2.2.2.2 k : Nat) : Int)) ∧ M' 81 4 = 0 ∧ M' 81 1 = 0 ∧ M' 83 0 = 0 ∧ M' 83 1 = 0 ∧ M' 81 5 = 0 ∧ (M' 88 0 = -1 ∧ M' 88 1 = -1 ∧ M' 88 2 = -1 ∧ M' 88 3 = -1) ∧ ∀ q i, ¬ ((q = 82 ∧ i < 124) ∨ (q = 81 ∧ (i = 4 ∨ i = 1 ∨ i = 5)) ∨ (q = 83 ∧ i < 2) ∨ (q = 88 ∧ i < 4)) → M' q i = M q i
theorem l_masT (N : Nat) (C : gCl) (T : TT) (M : gM) (hN : 2000 ≤ N) (hd : tdM M T) (hO : tdO T) : ∃ M', L_X10_house_57 C N 0 (gU (gU (gU (gU (gCp (gU M 81 4 0) 82 62 82 0 62) 81 1 0) 83 0 0) 83 1 0) 81 5 0) = some (M', some (.inl (M 81 16))) ∧ asM M T M' := by
  obtain ⟨d1, d2, d3, d4, d5⟩ := id hd
  obtain ⟨o1, o2, o3, o4⟩ := id hO
  have hf : ∀ p, p < T.1 → kOkL (T.2.2.1 p) := fun p hp => (o3 p hp).2
  have dm : tdM (gU M 81 4 0) T := tdM_fr hd hO (fun i _ _ => gU_off _ _ (by omega))
  have fm : ∀ q i, ¬ (q = 81 ∧ i = 4) → gU M 81 4 0 q i = M q i := fun q i hq => gU_off _ _ hq
  have w4 : gU M 81 4 0 81 4 = 0 := gU_same _ _ _ _
  generalize gU M 81 4 0 = Ma at dm fm w4
  obtain ⟨a1, a2, a3, a4, a5⟩ := id dm
  have kc : kH (gCp Ma 82 62 82 0 62) T.1 0 0 T.2.2.1 := kCp_row a3 hf o1 62 (by omega)
  have fc : ∀ q i, ¬ (q = 82 ∧ i < 62) → gCp Ma 82 62 82 0 62 q i = Ma q i := fun q i hq => gCp_off (by omega)
  have fi : ∀ i, i < 62 → gCp Ma 82 62 82 0 62 82 i = Ma 82 (62 + i) := fun i hi => by rw [gCp_in rfl (by omega) (by omega), Nat.sub_zero]
  generalize gCp Ma 82 62 82 0 62 = Mb at kc fc fi
  have fe : ∀ q i, ¬ ((q = 81 ∧ (i = 1 ∨ i = 5)) ∨ (q = 83 ∧ i < 2)) → gU (gU (gU (gU Mb 81 1 0) 83 0 0) 83 1 0) 81 5 0 q i = Mb q i := fun q i hq => by
    rw [gU_off _ _ (by omega), gU_off _ _ (by omega), gU_off _ _ (by omega), gU_off _ _ (by omega)]
  have e1 : gU (gU (gU (gU Mb 81 1 0) 83 0 0) 83 1 0) 81 5 0 81 1 = 0 := by simp [gU]
  have e2 : gU (gU (gU (gU Mb 81 1 0) 83 0 0) 83 1 0) 81 5 0 83 0 = 0 := by simp [gU]
  have e3 : gU (gU (gU (gU Mb 81 1 0) 83 0 0) 83 1 0) 81 5 0 83 1 = 0 := by simp [gU]
  have e4 : gU (gU (gU (gU Mb 81 1 0) 83 0 0) 83 1 0) 81 5 0 81 5 = 0 := by simp [gU]
  generalize gU (gU (gU (gU Mb 81 1 0) 83 0 0) 83 1 0) 81 5 0 = Mc at fe e1 e2 e3 e4
  have h := mh57_all C N Mc (by omega)
  have v16 : Mc 81 16 = M 81 16 := by rw [fe _ _ (by omega), fc _ _ (by omega), fm _ _ (by omega)]
  rw [v16] at h
  have fd : ∀ q i, ¬ (q = 88 ∧ i < 4) → gU (gU (gU (gU Mc 88 0 (-1)) 88 1 (-1)) 88 2 (-1)) 88 3 (-1) q i = Mc q i := fun q i hq => by
    rw [gU_off _ _ (by omega), gU_off _ _ (by omega), gU_off _ _ (by omega), gU_off _ _ (by omega)]
  have r0 : gU (gU (gU (gU Mc 88 0 (-1)) 88 1 (-1)) 88 2 (-1)) 88 3 (-1) 88 0 = -1 := by simp [gU]
  have r1 : gU (gU (gU (gU Mc 88 0 (-1)) 88 1 (-1)) 88 2 (-1)) 88 3 (-1) 88 1 = -1 := by simp [gU]
  have r2 : gU (gU (gU (gU Mc 88 0 (-1)) 88 1 (-1)) 88 2 (-1)) 88 3 (-1) 88 2 = -1 := by simp [gU]
  have r3 : gU (gU (gU (gU Mc 88 0 (-1)) 88 1 (-1)) 88 2 (-1)) 88 3 (-1) 88 3 = -1 := by simp [gU]
  generalize gU (gU (gU (gU Mc 88 0 (-1)) 88 1 (-1)) 88 2 (-1)) 88 3 (-1) = Md at h fd r0 r1 r2 r3
  have t82 : ∀ i, 62 ≤ i → Md 82 i = Ma 82 i := fun i hi => by rw [fd _ _ (by omega), fe _ _ (by omega), fc _ _ (by omega)]
  have b82 : ∀ i, i < 62 → Md 82 i = Ma 82 (62 + i) := fun i hi => by rw [fd _ _ (by omega), fe _ _ (by omega), fi i hi]
  refine ⟨Md, h, tdM_fr dm hO (fun i i1 i2 => t82 i i1), ?_, fun p hp => ?_, kH_fr kc hf o1 (fun i i1 i2 => by rw [fd _ _ (by omega), fe _ _ (by omega)]), ?_, fun k hk => ⟨?_, ?_⟩, ?_, ?_, ?_, ?_, ?_, ⟨r0, r1, r2, r3⟩, fun q i hq => ?_⟩
  · rw [b82 29 (by omega)]
    exact a1
  · rw [b82 _ (by omega), show 62 + (30 + p) = 92 + p by omega]
    exact a2 p hp
  · rw [b82 37 (by omega)]
    exact a4
  · rw [b82 _ (by omega), show 62 + (38 + 2 * k) = 100 + 2 * k by omega]
    exact (a5 k hk).1
  · rw [b82 _ (by omega), show 62 + (39 + 2 * k) = 101 + 2 * k by omega]
    exact (a5 k hk).2
  · rw [fd _ _ (by omega), fe _ _ (by omega), fc _ _ (by omega)]
    exact w4
  · rw [fd _ _ (by omega)]
    exact e1
  · rw [fd _ _ (by omega)]
    exact e2
  · rw [fd _ _ (by omega)]
    exact e3
  · rw [fd _ _ (by omega)]
    exact e4
  · rw [fd _ _ (by omega), fe _ _ (by omega), fc _ _ (by omega), fm _ _ (by omega)]
