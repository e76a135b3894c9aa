-- 87: fault
theorem tx_of {M : gM} {l : Nat} (h : iTxt M l) : ∃ tx, txtX M tx l ∧ txtM M tx l := by
  obtain ⟨h1, h2, h3, h4⟩ := h
  refine ⟨fun j => (M 2 j).toNat, ⟨h1, h2, fun j hj => ?_⟩, h1, h3, fun j hj => ?_⟩
  · have := h4 j hj
    simp only
    omega
  · have := h4 j hj
    simp only
    omega
theorem td_of {M : gM} {n : Nat} {K : Nat → Nat} {G : Nat → List Int} {c' : Nat} {A' B' : Nat → Nat} (hP : iPpl M n K) (hT : iGr M n 11 62 0 G) (hQ : iPrs M n 17 62 c' A' B') : tdM M (n, K, G, c', A', B') ∧ tdO (n, K, G, c', A', B') := by
  obtain ⟨p1, p2, p3, p4, p5⟩ := hP
  obtain ⟨⟨_, _, o⟩, _, g2⟩ := hT
  obtain ⟨q1, q2, q3, q4⟩ := hQ
  exact ⟨⟨p4, fun p hp => (p5 p hp).2.2.2, g2, q3, fun k hk => ⟨(q4 k hk).2.2.2.2.2.1, (q4 k hk).2.2.2.2.2.2⟩⟩, p1, q1, fun p hp => ⟨(p5 p hp).1, o p hp⟩, fun k hk => ⟨(q4 k hk).1, (q4 k hk).2.1, (q4 k hk).2.2.1⟩⟩
theorem p_fault (N d : Nat) (M : gM) (hN : 100000 ≤ N) (hI : kInv M) : kPair N (d + 20) 55 113 [] M := by
  obtain ⟨n, K, t, F, G, c, A, B, c', A', B', l, s, h⟩ := id hI
  obtain ⟨hP, hW, hT, hQ, hQ', hX, hU, hKp, hS, hD, hw, hz⟩ := id h
  have hn := hP.1
  have h6 := hP.2.1
  have m29 := hP.2.2.1
  have hKx := iPpl_kx hP
  have hKm := iPpl_km hP
  obtain ⟨hOk, hG8, hH0⟩ := id hW
  obtain ⟨tx, tX, tM⟩ := tx_of hX
  have c1 : gEv N (d + 20) 55 [.inr (.inr 1)] M = _ := q_X9_fault N (d + 19) M
  rw [h6, hQ'.2.1] at c1
  obtain ⟨M1, x1, _, x3⟩ := s_xread N (d + 8) tx l n c' M (by omega) hn hQ'.1 tX
  have x1' : gEv N (d + 19) 39 [.inr (.inr 2), .inl (n : Int), .inl (c' : Int)] M = _ := x1
  rw [x1', gCi_some] at c1
  have h1 : kI M1 n K t F G c A B c' A' B' l s := kI_scr h (fun q i hq => x3 q i (fun w => hq (by unfold kScr; omega)))
  obtain ⟨hP1, hW1, hT1, hQ1, hQ1', hX1, hU1, hKp1, hS1, hD1, hw1, hz1⟩ := id h1
  obtain ⟨t1, t2⟩ := td_of hP1 hT1 hQ1'
  have tM1 : txtM M1 tx l := txtM_fr tM (fun q i hq => x3 q i (by omega))
  obtain ⟨M2, y1, ⟨y2, _, y3, y4⟩, _⟩ := s_mreads N (d + 12) tx l false _ M1 (by omega) tM1 t1 t2 hw1
  have c3 := q_X10_fault N (d + 19) M1
  have y1' : gEv N (d + 19) 112 [.inr (.inr 82), .inl 0] M1 = _ := y1
  rw [y1', gCi_some, bI_eq0] at c3
  have h2 : kI M2 n K t F G c A B c' A' B' l s := kI_scr h1 (fun q i hq => by
    by_cases h82 : q = 82
    · subst h82; exact y3 rfl i
    · exact y4 q i (fun w => hq (by unfold kScr; omega)))
  have z : ∀ q, q = 1000 ∨ q = 1001 → ∀ i, M1 q i = M q i := fun q hq i => x3 q i (by omega)
  simp only at y2 c3
  cases hr : (rdT tx l 20 0 n c').1 with
  | none =>
    rw [hr] at c1 c3
    rw [show (none : Option (List (Nat × List Nat))).isSome = false from rfl, Bool.not_false, cond_true, y2 hr] at c3
    exact ⟨M1, _, M2, c1, c3, z 1000 (Or.inl rfl), z 1001 (Or.inr rfl) 0, n, K, t, F, G, c, A, B, c', A', B', l, s, h2⟩
  | some L =>
    rw [hr] at c1 c3
    rw [show (some L : Option (List (Nat × List Nat))).isSome = true from rfl, Bool.not_true, cond_false] at c3
    exact ⟨M1, _, M2, c1, c3, z 1000 (Or.inl rfl), z 1001 (Or.inr rfl) 0, n, K, t, F, G, c, A, B, c', A', B', l, s, h2⟩
