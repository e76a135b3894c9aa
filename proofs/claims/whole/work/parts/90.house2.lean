-- 90: house, on both
theorem tdx_of {M : gM} {n : Nat} {K : Nat → Nat} {G : Nat → List Int} {c' : Nat} {A' B' : Nat → Nat} (hP : iPpl M n K) (hT : iGr M n 11 62 0 G) (hQ : iPrs M n 17 62 c' A' B') : tdX M (n, K, G, c', A', B') := by
  obtain ⟨p1, p2, p3, p4, p5⟩ := hP
  obtain ⟨_, g1, _⟩ := hT
  obtain ⟨q1, q2, q3, q4⟩ := hQ
  exact ⟨p2, fun p hp => (p5 p hp).2.1, g1, q2, fun k hk => ⟨(q4 k hk).2.2.2.1, (q4 k hk).2.2.2.2.1⟩⟩
theorem tdX_fr {M M' : gM} {T : TT} (h : tdX M T) (hO : tdO T) (e : ∀ q i, (q = 6 ∨ q = 7 ∨ (11 ≤ q ∧ q ≤ 13) ∨ (17 ≤ q ∧ q ≤ 19)) → M' q i = M q i) : tdX M' T := by
  obtain ⟨x1, x2, x3, x4, x5⟩ := h
  exact ⟨(e _ _ (by omega)).trans x1, fun p hp => (e _ _ (by omega)).trans (x2 p hp), kG_fr x3 (fun p hp => (hO.2.2.1 p hp).2) hO.1 (fun q i hq => e q i (by omega)), (e _ _ (by omega)).trans x4, fun k hk => ⟨(e _ _ (by omega)).trans (x5 k hk).1, (e _ _ (by omega)).trans (x5 k hk).2⟩⟩
theorem house_kI {M M1 M2 M3 : gM} {n : Nat} {K : Nat → Nat} {t : Int} {F G : Nat → List Int} {c : Nat} {A B : Nat → Nat} {c' : Nat} {A' B' : Nat → Nat} {l s : Nat} {T : TT} (h : kI M n K t F G c A B c' A' B' l s) (hO : tdO T) (hx : tdX M1 T) (ha : asT M1 T M1) (f1 : ∀ q i, ¬ (q = 1 ∨ (3 ≤ q ∧ q ≤ 19) ∨ (q = 20 ∧ i = 0) ∨ (q = 54 ∧ i = 0) ∨ q = 53 ∨ ((q = 69 ∨ q = 72 ∨ q = 75 ∨ q = 78) ∧ i = 0)) → M1 q i = M q i) (f2 : ∀ q i, ¬ (q = 91 ∨ (q = 82 ∧ 62 ≤ i ∧ i < 124) ∨ (q = 81 ∧ 12 ≤ i ∧ i ≤ 17)) → M2 q i = M1 q i) (hm : asM M2 T M3) : kI M3 T.1 T.2.1 0 T.2.2.1 T.2.2.1 T.2.2.2.1 T.2.2.2.2.1 T.2.2.2.2.2 T.2.2.2.1 T.2.2.2.2.1 T.2.2.2.2.2 0 0 := by
  obtain ⟨hP, hW, hT, hQ, hQ', hX, hU, hKp, hS, hD, hw, hz⟩ := h
  obtain ⟨x1, x2, x3, x4, x5⟩ := hx
  obtain ⟨a1, a2, a3, a4, a5, a6, a7, ⟨a80, a81, a82, a83⟩, a9, _⟩ := ha
  obtain ⟨⟨m1, m2, m3, m4, m5⟩, b1, b2, b3, b4, b5, b6, b7, b8, b9, b10, ⟨r0, r1, r2, r3⟩, f3⟩ := hm
  obtain ⟨o1, o2, o3, o4⟩ := hO
  have hf : ∀ p, p < T.1 → kOkL (T.2.2.1 p) := fun p hp => (o3 p hp).2
  have k0 : kOk T.1 0 T.2.2.1 := ⟨Int.le_refl _, by omega, hf⟩
  have e1 : ∀ q i, q < 81 → M3 q i = M1 q i := fun q i hq => (f3 q i (by omega)).trans (f2 q i (by omega))
  obtain ⟨u, lt, TT1, GG1, u1, u2, u3, u4, u5, u6⟩ := hU
  refine ⟨⟨o1, (e1 _ _ (by omega)).trans x1, b1, m1, fun p hp => ⟨(o3 p hp).1, (e1 _ _ (by omega)).trans (x2 p hp), b2 p hp, m2 p hp⟩⟩, ⟨k0, kG_fr a1 hf o1 (fun q i hq => e1 q i (by omega)), b3⟩, ⟨k0, kG_fr x3 hf o1 (fun q i hq => e1 q i (by omega)), m3⟩, ⟨o2, (e1 _ _ (by omega)).trans a2, b4, fun k hk => ?_⟩, ⟨o2, (e1 _ _ (by omega)).trans x4, m4, fun k hk => ?_⟩, ⟨Nat.zero_le _, (e1 _ _ (by omega)).trans a9, b6, fun j hj => absurd hj (Nat.not_lt_zero j)⟩, ⟨0, lt, fun _ => 0, fun _ _ => [], Nat.zero_le _, u2, (e1 _ _ (by omega)).trans a4, ?_, b7, fun j hj => absurd hj (Nat.not_lt_zero j)⟩, fun k hk => ?_, ⟨Nat.zero_le _, (e1 _ _ (by omega)).trans a5, b10, fun j hj => absurd hj (Nat.not_lt_zero j)⟩, fun d hd => ?_, fun w i i1 i2 => ?_, fun i => ?_⟩
  · obtain ⟨y1, y2, y3⟩ := o4 k hk
    refine ⟨y1, y2, y3, (e1 _ _ (by omega)).trans (a3 k hk).1, (e1 _ _ (by omega)).trans (a3 k hk).2, ?_, ?_⟩
    · rw [Nat.zero_add]; exact (b5 k hk).1
    · rw [Nat.zero_add]; exact (b5 k hk).2
  · obtain ⟨y1, y2, y3⟩ := o4 k hk
    exact ⟨y1, y2, y3, (e1 _ _ (by omega)).trans (x5 k hk).1, (e1 _ _ (by omega)).trans (x5 k hk).2, (m5 k hk).1, (m5 k hk).2⟩
  · rw [e1 _ _ (by omega), f1 _ _ (by omega)]
    exact u4
  · have h53 : M3 53 k = 0 := by
      rw [e1 _ _ (by omega)]
      rcases (show k = 0 ∨ k = 1 by omega) with rfl | rfl
      · exact a6
      · exact a7
    have h83 : M3 83 k = 0 := by
      rcases (show k = 0 ∨ k = 1 by omega) with rfl | rfl
      · exact b8
      · exact b9
    exact ⟨Or.inl h53, h83.trans h53.symm, fun w => by omega⟩
  · have h0 : M3 (69 + 3 * d) 0 = 0 ∧ M3 88 d = -1 := by
      rw [e1 _ _ (by omega)]
      rcases (show d = 0 ∨ d = 1 ∨ d = 2 ∨ d = 3 by omega) with rfl | rfl | rfl | rfl
      · exact ⟨a80, r0⟩
      · exact ⟨a81, r1⟩
      · exact ⟨a82, r2⟩
      · exact ⟨a83, r3⟩
    refine ⟨Or.inl h0, fun i hi => ?_⟩
    obtain ⟨y1, y2, y3, y4, y5, _⟩ := (hD d hd).2 i hi
    have g70 : M3 (70 + 3 * d) i = M (70 + 3 * d) i := by rw [e1 _ _ (by omega), f1 _ _ (by omega)]
    have g71 : M3 (71 + 3 * d) i = M (71 + 3 * d) i := by rw [e1 _ _ (by omega), f1 _ _ (by omega)]
    have g89 : M3 89 (10 * d + i) = M 89 (10 * d + i) := by rw [f3 _ _ (by omega), f2 _ _ (by omega), f1 _ _ (by omega)]
    have g90 : M3 90 (10 * d + i) = M 90 (10 * d + i) := by rw [f3 _ _ (by omega), f2 _ _ (by omega), f1 _ _ (by omega)]
    rw [g70, g71, g89, g90]
    exact ⟨y1, y2, y3, y4, y5, fun w => by rw [h0.1] at w; omega⟩
  · rw [f3 _ _ (by omega), f2 _ _ (by omega), f1 _ _ (by omega)]
    exact hw w i i1 i2
  · rw [f3 _ _ (by omega), f2 _ _ (by omega), f1 _ _ (by omega)]
    exact hz i
theorem asT_self {M T M'} (h : asT M T M') : asT M' T M' := by
  obtain ⟨a1, a2, a3, a4, a5, a6, a7, a8, a9, _⟩ := h
  exact ⟨a1, a2, a3, a4, a5, a6, a7, a8, a9, fun _ _ _ => rfl⟩
theorem p_house (N d : Nat) (M : gM) (hN : 100000 ≤ N) (hI : kInv M) : kPair N (d + 20) 56 115 [] M := by
  obtain ⟨n, K, t, F, G, c, A, B, c', A', B', l, s, h⟩ := id hI
  obtain ⟨hP, hW, hT, hQ, hQ', hX, hU, hKp, hS, hD, hw, hz⟩ := id h
  have hn := hP.1
  have h6 := hP.2.1
  have m29 := hP.2.2.1
  have hKx := iPpl_kx hP
  have hKm := iPpl_km hP
  obtain ⟨hOk, hG8, hH0⟩ := id hW
  obtain ⟨tx, tX, tM⟩ := tx_of hX
  obtain ⟨t1, t2⟩ := td_of hP hT hQ'
  have t3 := tdx_of hP hT hQ'
  have c1 : gEv N (d + 20) 56 [.inr (.inr 1)] M = _ := q_X9_house N (d + 19) M
  rw [h6, hQ'.2.1] at c1
  obtain ⟨M1, x1, x2, x3⟩ := s_xread N (d + 8) tx l n c' M (by omega) hn hQ'.1 tX
  have x1' : gEv N (d + 19) 39 [.inr (.inr 2), .inl (n : Int), .inl (c' : Int)] M = _ := x1
  rw [x1', gCi_some] at c1
  have hG := rdT_exG tx l 20 0 n c' (n, K, G, c', A', B')
  have hle := rdT_le tx l 20 0 n c' (Nat.zero_le _) hn hQ'.1
  have hl := tX.1
  cases hr : (rdT tx l 20 0 n c').1 with
  | none =>
    rw [hr] at c1
    simp only at c1
    rw [gEq_n (by omega), cond_false] at c1
    have h1 : kI M1 n K t F G c A B c' A' B' l s := kI_scr h (fun q i hq => x3 q i (fun w => hq (by unfold kScr; omega)))
    obtain ⟨hP1, hW1, hT1, hQ1, hQ1', hX1, hU1, hKp1, hS1, hD1, hw1, hz1⟩ := id h1
    obtain ⟨t1, t2⟩ := td_of hP1 hT1 hQ1'
    have tM1 : txtM M1 tx l := txtM_fr tM (fun q i hq => x3 q i (by omega))
    obtain ⟨M2, y1, ⟨_, _, y3, y4⟩, _⟩ := s_mreads N (d + 12) tx l false _ M1 (by omega) tM1 t1 t2 hw1
    have c3 := q_X10_house N (d + 19) M1
    have y1' : gEv N (d + 19) 112 [.inr (.inr 82), .inl 0] M1 = _ := y1
    rw [y1', gCi_some] at c3
    simp only at c3
    rw [hr, show (none : Option (List (Nat × List Nat))).isSome = false from rfl, bI_eq0, Bool.not_false, cond_true] at c3
    have h2 : kI M2 n K t F G c A B c' A' B' l s := kI_scr h1 (fun q i hq => by
      by_cases h82 : q = 82
      · subst h82; exact y3 rfl i
      · exact y4 q i (fun w => hq (by unfold kScr; omega)))
    exact ⟨M1, _, M2, c1, c3, fun i => x3 _ _ (by omega), x3 _ _ (by omega), n, K, t, F, G, c, A, B, c', A', B', l, s, h2⟩
  | some L =>
    obtain ⟨z1, z2, z3⟩ := x2 L hr
    have g0 := hG L (Nat.zero_le _) t2 rfl rfl hr
    rw [hr] at c1
    simp only at c1
    rw [gEq_refl, cond_true] at c1
    obtain ⟨M2, u1, u2, u3, u4⟩ := l_xhouse30 N (d + 16) (by omega) L 0 N (n, K, G, c', A', B') M1 (by omega) (by omega) (by rw [Nat.zero_add]; exact z1) z3 g0 (tdX_fr t3 t2 (fun q i hq => x3 q i (by omega))) t2
    have u1' : L_X9_house_30 (gEv N (d + 19)) N 0 M1 = _ := u1
    obtain ⟨M3, v1, v2⟩ := s_asTold N (d + 17) _ M2 (by omega) u2 u3
    have v1' : gEv N (d + 16 + 3) 88 [.inr (.inr 1)] M2 = _ := v1
    have fv := v2.2.2.2.2.2.2.2.2.2
    have v12 : M3 1 2 = ((L.length : Nat) : Int) := by rw [fv _ _ (by omega), u4 _ _ (by omega)]; exact z1
    rw [u1', v1', gCv_some, v12] at c1
    have f3 : ∀ q i, ¬ (q = 1 ∨ (3 ≤ q ∧ q ≤ 19) ∨ (q = 20 ∧ i = 0) ∨ (q = 54 ∧ i = 0) ∨ q = 53 ∨ ((q = 69 ∨ q = 72 ∨ q = 75 ∨ q = 78) ∧ i = 0)) → M3 q i = M q i := fun q i hq => (fv q i (by omega)).trans ((u4 q i (by omega)).trans (x3 q i (by omega)))
    have tx3 : tdX M3 (exL L (n, K, G, c', A', B')) := tdX_fr u2 u3 (fun q i hq => fv q i (by omega))
    have tm3 : txtM M3 tx l := txtM_fr tM (fun q i hq => f3 q i (by omega))
    have td3 : tdM M3 (n, K, G, c', A', B') := tdM_fr t1 t2 (fun i _ _ => f3 _ _ (by omega))
    have hw3 : iWrd M3 := fun w i i1 i2 => (f3 _ _ (by omega)).trans (hw w i i1 i2)
    obtain ⟨M4, y1, ⟨_, _, y3, y4⟩, _⟩ := s_mreads N (d + 12) tx l false _ M3 (by omega) tm3 td3 t2 hw3
    have tm4 : txtM M4 tx l := txtM_fr tm3 (fun q i hq => y4 q i (by omega))
    have td4 : tdM M4 (n, K, G, c', A', B') := tdM_fr td3 t2 (fun i _ _ => y3 rfl i)
    have hw4 : iWrd M4 := fun w i i1 i2 => (y4 _ _ (by omega)).trans (hw3 w i i1 i2)
    obtain ⟨M5, w1, ⟨_, w2, _, w4⟩, w5⟩ := s_mreads N (d + 12) tx l true _ M4 (by omega) tm4 td4 t2 hw4
    have c3 := q_X10_house N (d + 19) M3
    have y1' : gEv N (d + 19) 112 [.inr (.inr 82), .inl 0] M3 = _ := y1
    have w1' : gEv N (d + 19) 112 [.inr (.inr 82), .inl 1] M4 = _ := w1
    obtain ⟨td5, o5⟩ := w2 rfl L hr
    have w16 := w5 L hr
    have ec : gEv N (d + 19) 114 [.inr (.inr 82), .inl 62, .inl 0, .inl 62] (gU M5 81 4 0) = some (gCp (gU M5 81 4 0) 82 62 82 0 62, none) := s_copyRow N (d + 18) 62 0 62 _ (by omega) (by omega) (by omega) (by omega)
    obtain ⟨M6, j1, j2⟩ := l_masT N (gEv N (d + 19)) _ M5 (by omega) td5 o5
    rw [y1', gCi_some] at c3
    simp only at c3
    rw [hr, show (some L : Option (List (Nat × List Nat))).isSome = true from rfl, bI_eq0, Bool.not_true, cond_false, w1', gCi_some, ec, gCv_some, gInb_t (x := 0) (by omega) (by omega) (by omega), gIf_t, gB01_0, gIf_t, gInb_t (x := 1) (by omega) (by omega) (by omega), gIf_t, gIf_t, gIx_e (x := 0) (n := 0) rfl (by omega), gIx_e (x := 1) (n := 1) rfl (by omega), j1, w16] at c3
    have f5 : ∀ q i, ¬ (q = 91 ∨ (q = 82 ∧ 62 ≤ i ∧ i < 124) ∨ (q = 81 ∧ 12 ≤ i ∧ i ≤ 17)) → M5 q i = M3 q i := fun q i hq => (w4 q i hq).trans (y4 q i hq)
    exact ⟨M3, _, M6, c1, c3, fun i => f3 _ _ (by omega), f3 _ _ (by omega), _, _, _, _, _, _, _, _, _, _, _, _, _, house_kI h u3 tx3 (asT_self v2) f3 f5 j2⟩
