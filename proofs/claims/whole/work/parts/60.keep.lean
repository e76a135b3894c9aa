-- 60: keep, back
theorem keep0 (N d : Nat) (M : gM) (hN : 100000 ≤ N) (hI : kInv M) : kPair N (d + 20) 66 138 [.inl 0] M := by
  obtain ⟨n, K, t, F, G, c, A, B, c', A', B', l, s, h⟩ := id hI
  obtain ⟨hP, hW, hT, hQ, hQ', hX, hU, hKp, hS, hD, hw, hz⟩ := id h
  have hn := hP.1
  have h6 := hP.2.1
  have m29 := hP.2.2.1
  have hKx := iPpl_kx hP
  have hKm := iPpl_km hP
  obtain ⟨hOk, hG8, hH0⟩ := id hW
  obtain ⟨o1, o2, o3⟩ := id hOk
  have ik : gIx 0 = 0 := gIx_e (n := 0) rfl (by omega)
  have i28 := gIx_e (x := 28) (n := 28) rfl (by omega)
  have c1 := q_X9_keep N (d + 19) 0 M
  rw [s_xin N _ 0 0 1 M (rng_c (by omega) (by omega)) (rng_c (by omega) (by omega)) (rng_c (by omega) (by omega)), gCi_some, decide_eq_true (by omega), s_bec N (d + 18) 47 8 M (by unfold gPl; omega) kPl8, gCv_some, ik] at c1
  have hb := kBec_G (g := 47) (by unfold gPl; omega) kPl8 (by omega) hn o3 hG8
  have e8 : gU (kBec M 47 8) 53 0 1 8 0 = t := by
    rw [gU_off _ _ (by omega), kBec_fr _ _ (by omega)]
    exact hG8.1
  have e1 : gEv N (d + 20) 66 [.inr (.inr 1), .inl 0] M = some (gU (kBec M 47 8) 53 0 1, some (.inl t)) := by
    refine c1.trans ?_
    rw [e8]
    simp (disch := omega) only [gInb_t, gLt_t, gLt_f, gEq_t, gEq_f, gIx_nat, gIx_id, gIf, cond_true, cond_false, gCi_some, gCv_some, gCr_some, gB01_0, gB01_1, gBi_01, gU_same, gU_off, gW_id, Int.toNat_natCast, Int.toNat_add, Int.toNat_mul, Int.reduceToNat, Nat.add_zero, Int.add_zero, bI_eq0, bI_B, Bool.not_true, Bool.not_false, bI_t, bI_f]
  generalize hMb : gU (kBec M 47 8) 53 0 1 = Mb at e1 e8
  have fb : ∀ q i, ¬ ((47 ≤ q ∧ q ≤ 49) ∨ (q = 53 ∧ i = 0)) → Mb q i = M q i := fun q i hq => by
    rw [← hMb, gU_off _ _ (by omega), kBec_fr _ _ (by omega)]
  have b53 : Mb 53 0 = 1 := by rw [← hMb, gU_same]
  have hGb : kG Mb n 47 t F := kG_fr hb o3 hn (fun q i hq => by rw [← hMb]; simp (disch := omega) only [gU_same, gU_off])
  have c2 := q_X10_keep N (d + 19) 0 Mb
  have ec : gEv N (d + 19) 114 [.inr (.inr 82), .inl 0, .inl (356 + 29 * 0), .inl 29] Mb = some (gCp Mb 82 0 82 356 29, none) := s_copyRow N (d + 18) 0 356 29 Mb (by omega) (by omega) (by omega) (by omega)
  have t28 : gU (gCp Mb 82 0 82 356 29) 83 0 1 82 28 = t := by
    rw [gU_off _ _ (by omega), gCp_off (by omega), fb _ _ (by omega)]
    exact hH0.1
  rw [s_min N _ 0 0 1 (((0 : Nat) : Int)) (((1 : Nat) : Int)) Mb (rng_c (by omega) (by omega)) (rng_c (by omega) (by omega)) (rng_c (by omega) (by omega)) rfl rfl, gCi_some, decide_eq_true (by omega), ec, gCv_some, ik, i28, t28] at c2
  have e2 : gEv N (d + 20) 138 [.inr (.inr 82), .inl 0] Mb = some (gU (gCp Mb 82 0 82 356 29) 83 0 1, some (.inl t)) := by
    refine c2.trans ?_
    simp (disch := omega) only [gInb_t, gLt_t, gLt_f, gEq_t, gEq_f, gIx_nat, gIx_id, gIf, cond_true, cond_false, gCi_some, gCv_some, gCr_some, gB01_0, gB01_1, gBi_01, gU_same, gU_off, gW_id, Int.toNat_natCast, Int.toNat_add, Int.toNat_mul, Int.reduceToNat, Nat.add_zero, Int.add_zero, bI_eq0, bI_B, Bool.not_true, Bool.not_false, bI_t, bI_f]
  have hHb : kH Mb n 0 t F := kH_fr hH0 o3 hn (fun i h1 h2 => fb _ _ (by omega))
  have hHc := kCp_row (b := 356) hHb o3 hn 29 (by omega)
  generalize hMd : gU (gCp Mb 82 0 82 356 29) 83 0 1 = Md at e2
  have fd : ∀ q i, ¬ ((q = 83 ∧ i = 0) ∨ (q = 82 ∧ 356 ≤ i ∧ i < 385)) → Md q i = Mb q i := fun q i hq => by
    rw [← hMd, gU_off _ _ (by omega), gCp_off (by omega)]
  have d83 : Md 83 0 = 1 := by rw [← hMd, gU_same]
  have hHd : kH Md n 356 t F := kH_fr hHc o3 hn (fun i h1 h2 => by rw [← hMd]; simp (disch := omega) only [gU_same, gU_off])
  refine ⟨_, _, _, e1, e2, fun i => fb _ _ (by omega), fb _ _ (by omega), n, K, t, F, G, c, A, B, c', A', B', l, s, kI_kep (fun j hj => ?_) h (fun q i hq => (fd q i (by omega)).trans (fb q i (by omega)))⟩
  by_cases hjk : j = 0
  · subst hjk
    have b53d : Md 53 0 = 1 := (fd _ _ (by omega)).trans b53
    rw [b53d, d83]
    exact ⟨Or.inr rfl, rfl, fun _ => ⟨t, F, hOk, kG_fr hGb o3 hn (fun q i hq => fd q i (by omega)), hHd⟩⟩
  · obtain ⟨k1, k2, k3⟩ := hKp j hj
    have e53 : Md 53 j = M 53 j := (fd _ _ (by omega)).trans (fb _ _ (by omega))
    have e83 : Md 83 j = M 83 j := (fd _ _ (by omega)).trans (fb _ _ (by omega))
    rw [e53, e83]
    refine ⟨k1, k2, fun h4 => ?_⟩
    obtain ⟨t', F', h5⟩ := k3 h4
    exact ⟨t', F', iGr_fr h5 hn (fun q i hq => (fd q i (by omega)).trans (fb q i (by omega)))⟩
theorem back0 (N d : Nat) (M : gM) (hN : 100000 ≤ N) (hI : kInv M) : kPair N (d + 20) 67 139 [.inl 0] M := by
  obtain ⟨n, K, t, F, G, c, A, B, c', A', B', l, s, h⟩ := id hI
  obtain ⟨hP, hW, hT, hQ, hQ', hX, hU, hKp, hS, hD, hw, hz⟩ := id h
  have hn := hP.1
  have h6 := hP.2.1
  have m29 := hP.2.2.1
  have hKx := iPpl_kx hP
  have hKm := iPpl_km hP
  obtain ⟨hOk, hG8, hH0⟩ := id hW
  have ik : gIx 0 = 0 := gIx_e (n := 0) rfl (by omega)
  have i28 := gIx_e (x := 28) (n := 28) rfl (by omega)
  obtain ⟨k1, k2, k3⟩ := hKp 0 (by omega)
  have c1 := q_X9_back N (d + 19) 0 M
  rw [s_xin N _ 0 0 1 M (rng_c (by omega) (by omega)) (rng_c (by omega) (by omega)) (rng_c (by omega) (by omega)), gCi_some, decide_eq_true (by omega), ik] at c1
  rcases k1 with k1 | k1
  · have c2 := q_X10_back N (d + 19) 0 M
    rw [s_min N _ 0 0 1 (((0 : Nat) : Int)) (((1 : Nat) : Int)) M (rng_c (by omega) (by omega)) (rng_c (by omega) (by omega)) (rng_c (by omega) (by omega)) rfl rfl, gCi_some, decide_eq_true (by omega), ik, k2, k1] at c2
    rw [k1] at c1
    refine kPair_ro (-4) hI (c1.trans ?_) (c2.trans ?_)
    · simp (disch := omega) only [gInb_t, gLt_t, gLt_f, gEq_t, gEq_f, gIx_nat, gIx_id, gIf, cond_true, cond_false, gCi_some, gCv_some, gCr_some, gB01_0, gB01_1, gBi_01, gU_same, gU_off, gW_id, Int.toNat_natCast, Int.toNat_add, Int.toNat_mul, Int.reduceToNat, Nat.add_zero, Int.add_zero, bI_eq0, bI_B, Bool.not_true, Bool.not_false, bI_t, bI_f]
    · simp (disch := omega) only [gInb_t, gLt_t, gLt_f, gEq_t, gEq_f, gIx_nat, gIx_id, gIf, cond_true, cond_false, gCi_some, gCv_some, gCr_some, gB01_0, gB01_1, gBi_01, gU_same, gU_off, gW_id, Int.toNat_natCast, Int.toNat_add, Int.toNat_mul, Int.reduceToNat, Nat.add_zero, Int.add_zero, bI_eq0, bI_B, Bool.not_true, Bool.not_false, bI_t, bI_f]
  · obtain ⟨t', F', hO, hGk, hHk⟩ := k3 k1
    have hb := kBec_G (g := 8) (h := 47) kPl8 (by unfold gPl; omega) (by omega) hn hO.2.2 hGk
    rw [s_bec N (d + 18) 8 47 M kPl8 (by unfold gPl; omega), gCv_some, k1] at c1
    have e8 : gU (kBec M 8 47) 20 0 0 8 0 = t' := by
      rw [gU_off _ _ (by omega)]
      exact hb.1
    have e1 : gEv N (d + 20) 67 [.inr (.inr 1), .inl 0] M = some (gU (kBec M 8 47) 20 0 0, some (.inl t')) := by
      refine c1.trans ?_
      rw [e8]
      simp (disch := omega) only [gInb_t, gLt_t, gLt_f, gEq_t, gEq_f, gIx_nat, gIx_id, gIf, cond_true, cond_false, gCi_some, gCv_some, gCr_some, gB01_0, gB01_1, gBi_01, gU_same, gU_off, gW_id, Int.toNat_natCast, Int.toNat_add, Int.toNat_mul, Int.reduceToNat, Nat.add_zero, Int.add_zero, bI_eq0, bI_B, Bool.not_true, Bool.not_false, bI_t, bI_f]
    generalize hMb : gU (kBec M 8 47) 20 0 0 = Mb at e1 e8
    have fb : ∀ q i, ¬ ((8 ≤ q ∧ q ≤ 10) ∨ (q = 20 ∧ i = 0)) → Mb q i = M q i := fun q i hq => by
      rw [← hMb, gU_off _ _ (by omega), kBec_fr _ _ (by omega)]
    have b20 : Mb 20 0 = 0 := by rw [← hMb, gU_same]
    have hGb : kG Mb n 8 t' F' := kG_fr hb hO.2.2 hn (fun q i hq => by rw [← hMb]; simp (disch := omega) only [gU_same, gU_off])
    have c2 := q_X10_back N (d + 19) 0 Mb
    have ec : gEv N (d + 19) 114 [.inr (.inr 82), .inl (356 + 29 * 0), .inl 0, .inl 29] Mb = some (gCp Mb 82 356 82 0 29, none) := s_copyRow N (d + 18) 356 0 29 Mb (by omega) (by omega) (by omega) (by omega)
    have hHb : kH Mb n 356 t' F' := kH_fr hHk hO.2.2 hn (fun i h1 h2 => fb _ _ (by omega))
    have hHc := kCp_row (b := 0) hHb hO.2.2 hn 29 (by omega)
    have t28 : gU (gCp Mb 82 356 82 0 29) 81 1 0 82 28 = t' := by
      rw [gU_off _ _ (by omega)]
      exact hHc.1
    have k83 : Mb 83 0 = 1 := (fb _ _ (by omega)).trans (k2.trans k1)
    rw [s_min N _ 0 0 1 (((0 : Nat) : Int)) (((1 : Nat) : Int)) Mb (rng_c (by omega) (by omega)) (rng_c (by omega) (by omega)) (rng_c (by omega) (by omega)) rfl rfl, gCi_some, decide_eq_true (by omega), ec, gCv_some, ik, i28, t28, k83] at c2
    have e2 : gEv N (d + 20) 139 [.inr (.inr 82), .inl 0] Mb = some (gU (gCp Mb 82 356 82 0 29) 81 1 0, some (.inl t')) := by
      refine c2.trans ?_
      simp (disch := omega) only [gInb_t, gLt_t, gLt_f, gEq_t, gEq_f, gIx_nat, gIx_id, gIf, cond_true, cond_false, gCi_some, gCv_some, gCr_some, gB01_0, gB01_1, gBi_01, gU_same, gU_off, gW_id, Int.toNat_natCast, Int.toNat_add, Int.toNat_mul, Int.reduceToNat, Nat.add_zero, Int.add_zero, bI_eq0, bI_B, Bool.not_true, Bool.not_false, bI_t, bI_f]
    generalize hMd : gU (gCp Mb 82 356 82 0 29) 81 1 0 = Md at e2
    have fd : ∀ q i, ¬ ((q = 81 ∧ i = 1) ∨ (q = 82 ∧ i < 29)) → Md q i = Mb q i := fun q i hq => by
      rw [← hMd, gU_off _ _ (by omega), gCp_off (by omega)]
    have hHd : kH Md n 0 t' F' := kH_fr hHc hO.2.2 hn (fun i h1 h2 => by rw [← hMd]; simp (disch := omega) only [gU_same, gU_off])
    obtain ⟨u, lt, T, G', u1, u2, u3⟩ := iUnd_to hU
    refine ⟨_, _, _, e1, e2, fun i => fb _ _ (by omega), fb _ _ (by omega), n, K, t', F', G, c, A, B, c', A', B', l, s, kI_now ⟨hO, kG_fr hGb hO.2.2 hn (fun q i hq => fd q i (by omega)), hHd⟩ (iUnd_of (u := 0) (lt := lt) (T := T) (G := G') ⟨by omega, u1.2.1, fun j hj => absurd hj (Nat.not_lt_zero j)⟩ ⟨(fd _ _ (by omega)).trans b20, ((fd _ _ (by omega)).trans (fb _ _ (by omega))).trans u2.2.1, fun j hj => absurd hj (Nat.not_lt_zero j)⟩ ⟨by rw [← hMd, gU_same]; rfl, fun j hj => absurd hj (Nat.not_lt_zero j)⟩) h (fun q i hq => (fd q i (by omega)).trans (fb q i (by omega)))⟩
theorem keep1 (N d : Nat) (M : gM) (hN : 100000 ≤ N) (hI : kInv M) : kPair N (d + 20) 66 138 [.inl 1] M := by
  obtain ⟨n, K, t, F, G, c, A, B, c', A', B', l, s, h⟩ := id hI
  obtain ⟨hP, hW, hT, hQ, hQ', hX, hU, hKp, hS, hD, hw, hz⟩ := id h
  have hn := hP.1
  have h6 := hP.2.1
  have m29 := hP.2.2.1
  have hKx := iPpl_kx hP
  have hKm := iPpl_km hP
  obtain ⟨hOk, hG8, hH0⟩ := id hW
  obtain ⟨o1, o2, o3⟩ := id hOk
  have ik : gIx 1 = 1 := gIx_e (n := 1) rfl (by omega)
  have i28 := gIx_e (x := 28) (n := 28) rfl (by omega)
  have c1 := q_X9_keep N (d + 19) 1 M
  rw [s_xin N _ 1 0 1 M (rng_c (by omega) (by omega)) (rng_c (by omega) (by omega)) (rng_c (by omega) (by omega)), gCi_some, decide_eq_true (by omega), s_bec N (d + 18) 50 8 M (by unfold gPl; omega) kPl8, gCv_some, ik] at c1
  have hb := kBec_G (g := 50) (by unfold gPl; omega) kPl8 (by omega) hn o3 hG8
  have e8 : gU (kBec M 50 8) 53 1 1 8 0 = t := by
    rw [gU_off _ _ (by omega), kBec_fr _ _ (by omega)]
    exact hG8.1
  have e1 : gEv N (d + 20) 66 [.inr (.inr 1), .inl 1] M = some (gU (kBec M 50 8) 53 1 1, some (.inl t)) := by
    refine c1.trans ?_
    rw [e8]
    simp (disch := omega) only [gInb_t, gLt_t, gLt_f, gEq_t, gEq_f, gIx_nat, gIx_id, gIf, cond_true, cond_false, gCi_some, gCv_some, gCr_some, gB01_0, gB01_1, gBi_01, gU_same, gU_off, gW_id, Int.toNat_natCast, Int.toNat_add, Int.toNat_mul, Int.reduceToNat, Nat.add_zero, Int.add_zero, bI_eq0, bI_B, Bool.not_true, Bool.not_false, bI_t, bI_f]
  generalize hMb : gU (kBec M 50 8) 53 1 1 = Mb at e1 e8
  have fb : ∀ q i, ¬ ((50 ≤ q ∧ q ≤ 52) ∨ (q = 53 ∧ i = 1)) → Mb q i = M q i := fun q i hq => by
    rw [← hMb, gU_off _ _ (by omega), kBec_fr _ _ (by omega)]
  have b53 : Mb 53 1 = 1 := by rw [← hMb, gU_same]
  have hGb : kG Mb n 50 t F := kG_fr hb o3 hn (fun q i hq => by rw [← hMb]; simp (disch := omega) only [gU_same, gU_off])
  have c2 := q_X10_keep N (d + 19) 1 Mb
  have ec : gEv N (d + 19) 114 [.inr (.inr 82), .inl 0, .inl (356 + 29 * 1), .inl 29] Mb = some (gCp Mb 82 0 82 385 29, none) := s_copyRow N (d + 18) 0 385 29 Mb (by omega) (by omega) (by omega) (by omega)
  have t28 : gU (gCp Mb 82 0 82 385 29) 83 1 1 82 28 = t := by
    rw [gU_off _ _ (by omega), gCp_off (by omega), fb _ _ (by omega)]
    exact hH0.1
  rw [s_min N _ 1 0 1 (((0 : Nat) : Int)) (((1 : Nat) : Int)) Mb (rng_c (by omega) (by omega)) (rng_c (by omega) (by omega)) (rng_c (by omega) (by omega)) rfl rfl, gCi_some, decide_eq_true (by omega), ec, gCv_some, ik, i28, t28] at c2
  have e2 : gEv N (d + 20) 138 [.inr (.inr 82), .inl 1] Mb = some (gU (gCp Mb 82 0 82 385 29) 83 1 1, some (.inl t)) := by
    refine c2.trans ?_
    simp (disch := omega) only [gInb_t, gLt_t, gLt_f, gEq_t, gEq_f, gIx_nat, gIx_id, gIf, cond_true, cond_false, gCi_some, gCv_some, gCr_some, gB01_0, gB01_1, gBi_01, gU_same, gU_off, gW_id, Int.toNat_natCast, Int.toNat_add, Int.toNat_mul, Int.reduceToNat, Nat.add_zero, Int.add_zero, bI_eq0, bI_B, Bool.not_true, Bool.not_false, bI_t, bI_f]
  have hHb : kH Mb n 0 t F := kH_fr hH0 o3 hn (fun i h1 h2 => fb _ _ (by omega))
  have hHc := kCp_row (b := 385) hHb o3 hn 29 (by omega)
  generalize hMd : gU (gCp Mb 82 0 82 385 29) 83 1 1 = Md at e2
  have fd : ∀ q i, ¬ ((q = 83 ∧ i = 1) ∨ (q = 82 ∧ 385 ≤ i ∧ i < 414)) → Md q i = Mb q i := fun q i hq => by
    rw [← hMd, gU_off _ _ (by omega), gCp_off (by omega)]
  have d83 : Md 83 1 = 1 := by rw [← hMd, gU_same]
  have hHd : kH Md n 385 t F := kH_fr hHc o3 hn (fun i h1 h2 => by rw [← hMd]; simp (disch := omega) only [gU_same, gU_off])
  refine ⟨_, _, _, e1, e2, fun i => fb _ _ (by omega), fb _ _ (by omega), n, K, t, F, G, c, A, B, c', A', B', l, s, kI_kep (fun j hj => ?_) h (fun q i hq => (fd q i (by omega)).trans (fb q i (by omega)))⟩
  by_cases hjk : j = 1
  · subst hjk
    have b53d : Md 53 1 = 1 := (fd _ _ (by omega)).trans b53
    rw [b53d, d83]
    exact ⟨Or.inr rfl, rfl, fun _ => ⟨t, F, hOk, kG_fr hGb o3 hn (fun q i hq => fd q i (by omega)), hHd⟩⟩
  · obtain ⟨k1, k2, k3⟩ := hKp j hj
    have e53 : Md 53 j = M 53 j := (fd _ _ (by omega)).trans (fb _ _ (by omega))
    have e83 : Md 83 j = M 83 j := (fd _ _ (by omega)).trans (fb _ _ (by omega))
    rw [e53, e83]
    refine ⟨k1, k2, fun h4 => ?_⟩
    obtain ⟨t', F', h5⟩ := k3 h4
    exact ⟨t', F', iGr_fr h5 hn (fun q i hq => (fd q i (by omega)).trans (fb q i (by omega)))⟩
theorem back1 (N d : Nat) (M : gM) (hN : 100000 ≤ N) (hI : kInv M) : kPair N (d + 20) 67 139 [.inl 1] M := by
  obtain ⟨n, K, t, F, G, c, A, B, c', A', B', l, s, h⟩ := id hI
  obtain ⟨hP, hW, hT, hQ, hQ', hX, hU, hKp, hS, hD, hw, hz⟩ := id h
  have hn := hP.1
  have h6 := hP.2.1
  have m29 := hP.2.2.1
  have hKx := iPpl_kx hP
  have hKm := iPpl_km hP
  obtain ⟨hOk, hG8, hH0⟩ := id hW
  have ik : gIx 1 = 1 := gIx_e (n := 1) rfl (by omega)
  have i28 := gIx_e (x := 28) (n := 28) rfl (by omega)
  obtain ⟨k1, k2, k3⟩ := hKp 1 (by omega)
  have c1 := q_X9_back N (d + 19) 1 M
  rw [s_xin N _ 1 0 1 M (rng_c (by omega) (by omega)) (rng_c (by omega) (by omega)) (rng_c (by omega) (by omega)), gCi_some, decide_eq_true (by omega), ik] at c1
  rcases k1 with k1 | k1
  · have c2 := q_X10_back N (d + 19) 1 M
    rw [s_min N _ 1 0 1 (((0 : Nat) : Int)) (((1 : Nat) : Int)) M (rng_c (by omega) (by omega)) (rng_c (by omega) (by omega)) (rng_c (by omega) (by omega)) rfl rfl, gCi_some, decide_eq_true (by omega), ik, k2, k1] at c2
    rw [k1] at c1
    refine kPair_ro (-4) hI (c1.trans ?_) (c2.trans ?_)
    · simp (disch := omega) only [gInb_t, gLt_t, gLt_f, gEq_t, gEq_f, gIx_nat, gIx_id, gIf, cond_true, cond_false, gCi_some, gCv_some, gCr_some, gB01_0, gB01_1, gBi_01, gU_same, gU_off, gW_id, Int.toNat_natCast, Int.toNat_add, Int.toNat_mul, Int.reduceToNat, Nat.add_zero, Int.add_zero, bI_eq0, bI_B, Bool.not_true, Bool.not_false, bI_t, bI_f]
    · simp (disch := omega) only [gInb_t, gLt_t, gLt_f, gEq_t, gEq_f, gIx_nat, gIx_id, gIf, cond_true, cond_false, gCi_some, gCv_some, gCr_some, gB01_0, gB01_1, gBi_01, gU_same, gU_off, gW_id, Int.toNat_natCast, Int.toNat_add, Int.toNat_mul, Int.reduceToNat, Nat.add_zero, Int.add_zero, bI_eq0, bI_B, Bool.not_true, Bool.not_false, bI_t, bI_f]
  · obtain ⟨t', F', hO, hGk, hHk⟩ := k3 k1
    have hb := kBec_G (g := 8) (h := 50) kPl8 (by unfold gPl; omega) (by omega) hn hO.2.2 hGk
    rw [s_bec N (d + 18) 8 50 M kPl8 (by unfold gPl; omega), gCv_some, k1] at c1
    have e8 : gU (kBec M 8 50) 20 0 0 8 0 = t' := by
      rw [gU_off _ _ (by omega)]
      exact hb.1
    have e1 : gEv N (d + 20) 67 [.inr (.inr 1), .inl 1] M = some (gU (kBec M 8 50) 20 0 0, some (.inl t')) := by
      refine c1.trans ?_
      rw [e8]
      simp (disch := omega) only [gInb_t, gLt_t, gLt_f, gEq_t, gEq_f, gIx_nat, gIx_id, gIf, cond_true, cond_false, gCi_some, gCv_some, gCr_some, gB01_0, gB01_1, gBi_01, gU_same, gU_off, gW_id, Int.toNat_natCast, Int.toNat_add, Int.toNat_mul, Int.reduceToNat, Nat.add_zero, Int.add_zero, bI_eq0, bI_B, Bool.not_true, Bool.not_false, bI_t, bI_f]
    generalize hMb : gU (kBec M 8 50) 20 0 0 = Mb at e1 e8
    have fb : ∀ q i, ¬ ((8 ≤ q ∧ q ≤ 10) ∨ (q = 20 ∧ i = 0)) → Mb q i = M q i := fun q i hq => by
      rw [← hMb, gU_off _ _ (by omega), kBec_fr _ _ (by omega)]
    have b20 : Mb 20 0 = 0 := by rw [← hMb, gU_same]
    have hGb : kG Mb n 8 t' F' := kG_fr hb hO.2.2 hn (fun q i hq => by rw [← hMb]; simp (disch := omega) only [gU_same, gU_off])
    have c2 := q_X10_back N (d + 19) 1 Mb
    have ec : gEv N (d + 19) 114 [.inr (.inr 82), .inl (356 + 29 * 1), .inl 0, .inl 29] Mb = some (gCp Mb 82 385 82 0 29, none) := s_copyRow N (d + 18) 385 0 29 Mb (by omega) (by omega) (by omega) (by omega)
    have hHb : kH Mb n 385 t' F' := kH_fr hHk hO.2.2 hn (fun i h1 h2 => fb _ _ (by omega))
    have hHc := kCp_row (b := 0) hHb hO.2.2 hn 29 (by omega)
    have t28 : gU (gCp Mb 82 385 82 0 29) 81 1 0 82 28 = t' := by
      rw [gU_off _ _ (by omega)]
      exact hHc.1
    have k83 : Mb 83 1 = 1 := (fb _ _ (by omega)).trans (k2.trans k1)
    rw [s_min N _ 1 0 1 (((0 : Nat) : Int)) (((1 : Nat) : Int)) Mb (rng_c (by omega) (by omega)) (rng_c (by omega) (by omega)) (rng_c (by omega) (by omega)) rfl rfl, gCi_some, decide_eq_true (by omega), ec, gCv_some, ik, i28, t28, k83] at c2
    have e2 : gEv N (d + 20) 139 [.inr (.inr 82), .inl 1] Mb = some (gU (gCp Mb 82 385 82 0 29) 81 1 0, some (.inl t')) := by
      refine c2.trans ?_
      simp (disch := omega) only [gInb_t, gLt_t, gLt_f, gEq_t, gEq_f, gIx_nat, gIx_id, gIf, cond_true, cond_false, gCi_some, gCv_some, gCr_some, gB01_0, gB01_1, gBi_01, gU_same, gU_off, gW_id, Int.toNat_natCast, Int.toNat_add, Int.toNat_mul, Int.reduceToNat, Nat.add_zero, Int.add_zero, bI_eq0, bI_B, Bool.not_true, Bool.not_false, bI_t, bI_f]
    generalize hMd : gU (gCp Mb 82 385 82 0 29) 81 1 0 = Md at e2
    have fd : ∀ q i, ¬ ((q = 81 ∧ i = 1) ∨ (q = 82 ∧ i < 29)) → Md q i = Mb q i := fun q i hq => by
      rw [← hMd, gU_off _ _ (by omega), gCp_off (by omega)]
    have hHd : kH Md n 0 t' F' := kH_fr hHc hO.2.2 hn (fun i h1 h2 => by rw [← hMd]; simp (disch := omega) only [gU_same, gU_off])
    obtain ⟨u, lt, T, G', u1, u2, u3⟩ := iUnd_to hU
    refine ⟨_, _, _, e1, e2, fun i => fb _ _ (by omega), fb _ _ (by omega), n, K, t', F', G, c, A, B, c', A', B', l, s, kI_now ⟨hO, kG_fr hGb hO.2.2 hn (fun q i hq => fd q i (by omega)), hHd⟩ (iUnd_of (u := 0) (lt := lt) (T := T) (G := G') ⟨by omega, u1.2.1, fun j hj => absurd hj (Nat.not_lt_zero j)⟩ ⟨(fd _ _ (by omega)).trans b20, ((fd _ _ (by omega)).trans (fb _ _ (by omega))).trans u2.2.1, fun j hj => absurd hj (Nat.not_lt_zero j)⟩ ⟨by rw [← hMd, gU_same]; rfl, fun j hj => absurd hj (Nat.not_lt_zero j)⟩) h (fun q i hq => (fd q i (by omega)).trans (fb q i (by omega)))⟩
theorem p_keep (N d : Nat) (a : Int) (M : gM) (hN : 100000 ≤ N) (hI : kInv M) (ha : rng a) : kPair N (d + 20) 66 138 [.inl a] M := by
  by_cases h0 : a = 0
  · subst h0
    exact keep0 N d M hN hI
  by_cases h1 : a = 1
  · subst h1
    exact keep1 N d M hN hI
  refine kPair_ro (-2) hI ?_ ?_
  · rw [q_X9_keep, s_xin N _ a 0 1 M ha (rng_c (by omega) (by omega)) (rng_c (by omega) (by omega)), gCi_some, decide_eq_false (by omega)]
    simp (disch := omega) only [gInb_t, gLt_t, gLt_f, gEq_t, gEq_f, gIx_nat, gIx_id, gIf, cond_true, cond_false, gCi_some, gCv_some, gCr_some, gB01_0, gB01_1, gBi_01, gU_same, gU_off, gW_id, Int.toNat_natCast, Int.toNat_add, Int.toNat_mul, Int.reduceToNat, Nat.add_zero, Int.add_zero, bI_eq0, bI_B, Bool.not_true, Bool.not_false, bI_t, bI_f]
  · rw [q_X10_keep, s_min N _ a 0 1 (((0 : Nat) : Int)) (((1 : Nat) : Int)) M ha (rng_c (by omega) (by omega)) (rng_c (by omega) (by omega)) rfl rfl, gCi_some, decide_eq_false (by omega)]
    simp (disch := omega) only [gInb_t, gLt_t, gLt_f, gEq_t, gEq_f, gIx_nat, gIx_id, gIf, cond_true, cond_false, gCi_some, gCv_some, gCr_some, gB01_0, gB01_1, gBi_01, gU_same, gU_off, gW_id, Int.toNat_natCast, Int.toNat_add, Int.toNat_mul, Int.reduceToNat, Nat.add_zero, Int.add_zero, bI_eq0, bI_B, Bool.not_true, Bool.not_false, bI_t, bI_f]
theorem p_back (N d : Nat) (a : Int) (M : gM) (hN : 100000 ≤ N) (hI : kInv M) (ha : rng a) : kPair N (d + 20) 67 139 [.inl a] M := by
  by_cases h0 : a = 0
  · subst h0
    exact back0 N d M hN hI
  by_cases h1 : a = 1
  · subst h1
    exact back1 N d M hN hI
  refine kPair_ro (-2) hI ?_ ?_
  · rw [q_X9_back, s_xin N _ a 0 1 M ha (rng_c (by omega) (by omega)) (rng_c (by omega) (by omega)), gCi_some, decide_eq_false (by omega)]
    simp (disch := omega) only [gInb_t, gLt_t, gLt_f, gEq_t, gEq_f, gIx_nat, gIx_id, gIf, cond_true, cond_false, gCi_some, gCv_some, gCr_some, gB01_0, gB01_1, gBi_01, gU_same, gU_off, gW_id, Int.toNat_natCast, Int.toNat_add, Int.toNat_mul, Int.reduceToNat, Nat.add_zero, Int.add_zero, bI_eq0, bI_B, Bool.not_true, Bool.not_false, bI_t, bI_f]
  · rw [q_X10_back, s_min N _ a 0 1 (((0 : Nat) : Int)) (((1 : Nat) : Int)) M ha (rng_c (by omega) (by omega)) (rng_c (by omega) (by omega)) rfl rfl, gCi_some, decide_eq_false (by omega)]
    simp (disch := omega) only [gInb_t, gLt_t, gLt_f, gEq_t, gEq_f, gIx_nat, gIx_id, gIf, cond_true, cond_false, gCi_some, gCv_some, gCr_some, gB01_0, gB01_1, gBi_01, gU_same, gU_off, gW_id, Int.toNat_natCast, Int.toNat_add, Int.toNat_mul, Int.reduceToNat, Nat.add_zero, Int.add_zero, bI_eq0, bI_B, Bool.not_true, Bool.not_false, bI_t, bI_f]
