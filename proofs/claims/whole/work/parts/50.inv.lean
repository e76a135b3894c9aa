-- 50: what holds between the calls
def rng (x : Int) : Prop := -2147483648 ≤ x ∧ x < 2147483648
/-- a truth as a number -/
def bI (b : Bool) : Int := cond b 1 0
theorem bI_t : bI true = 1 := rfl
theorem bI_f : bI false = 0 := rfl
theorem bI_B (b : Bool) : gB01 (bI b) = true := by cases b; exact gB01_0; exact gB01_1
theorem bI_eq0 (b : Bool) : gEq (bI b) 0 = !b := by cases b; exact gEq_refl 0; exact gEq_f (by decide) (by decide) (by decide) (by decide) (by decide)
theorem gBi_bI (p : Prop) [Decidable p] : gBi p = bI (decide p) := by unfold gBi bI; by_cases h : p <;> simp [h]
/-- the people -/
def iPpl (M : gM) (n : Nat) (K : Nat → Nat) : Prop := n ≤ 7 ∧ M 6 0 = (n : Int) ∧ M 82 29 = (n : Int) ∧ M 82 91 = (n : Int) ∧ ∀ p, p < n → K p < 5 ∧ M 7 p = ((K p : Nat) : Int) ∧ M 82 (30 + p) = ((K p : Nat) : Int) ∧ M 82 (92 + p) = ((K p : Nat) : Int)
theorem iPpl_fr {M M' : gM} {n : Nat} {K : Nat → Nat} (h : iPpl M n K) (e : ∀ q i, (q = 6 ∧ i = 0) ∨ (q = 7 ∧ i < 7) ∨ (q = 82 ∧ ((29 ≤ i ∧ i < 37) ∨ (91 ≤ i ∧ i < 99))) → M' q i = M q i) : iPpl M' n K := by
  obtain ⟨h1, h2, h3, h4, h5⟩ := h
  refine ⟨h1, (e _ _ (by omega)).trans h2, (e _ _ (by omega)).trans h3, (e _ _ (by omega)).trans h4, fun p hp => ?_⟩
  obtain ⟨k1, k2, k3, k4⟩ := h5 p hp
  exact ⟨k1, (e _ _ (by omega)).trans k2, (e _ _ (by omega)).trans k3, (e _ _ (by omega)).trans k4⟩
theorem iPpl_km {M : gM} {n : Nat} {K : Nat → Nat} (h : iPpl M n K) : kKm M n K := ⟨h.2.2.1, fun p hp => ⟨(h.2.2.2.2 p hp).1, (h.2.2.2.2 p hp).2.2.1⟩⟩
/-- griefs, in the class's place g and the model's row from b on -/
def iGr (M : gM) (n g b : Nat) (t : Int) (F : Nat → List Int) : Prop := kOk n t F ∧ kG M n g t F ∧ kH M n b t F
theorem iGr_fr {M M' : gM} {n g b : Nat} {t : Int} {F : Nat → List Int} (h : iGr M n g b t F) (hn : n ≤ 7) (e : ∀ q i, (q = g ∧ i = 0) ∨ (q = g + 1 ∧ i < 7) ∨ (q = g + 2 ∧ i < 21) ∨ (q = 82 ∧ b ≤ i ∧ i < b + 29) → M' q i = M q i) : iGr M' n g b t F :=
  ⟨h.1, kG_fr h.2.1 h.1.2.2 hn (fun q i hq => e q i (by omega)), kH_fr h.2.2 h.1.2.2 hn (fun i h1 h2 => e 82 i (by omega))⟩
/-- pairs -/
def iPrs (M : gM) (n g b c : Nat) (A B : Nat → Nat) : Prop := c ≤ 12 ∧ M g 0 = (c : Int) ∧ M 82 (b + 37) = (c : Int) ∧ ∀ k, k < c → A k < n ∧ B k < n ∧ A k ≠ B k ∧ M (g + 1) k = ((A k : Nat) : Int) ∧ M (g + 2) k = ((B k : Nat) : Int) ∧ M 82 (b + 38 + 2 * k) = ((A k : Nat) : Int) ∧ M 82 (b + 39 + 2 * k) = ((B k : Nat) : Int)
theorem iPrs_fr {M M' : gM} {n g b c : Nat} {A B : Nat → Nat} (h : iPrs M n g b c A B) (e : ∀ q i, (q = g ∧ i = 0) ∨ (q = g + 1 ∧ i < 12) ∨ (q = g + 2 ∧ i < 12) ∨ (q = 82 ∧ b + 37 ≤ i ∧ i < b + 62) → M' q i = M q i) : iPrs M' n g b c A B := by
  obtain ⟨h1, h2, h3, h5⟩ := h
  refine ⟨h1, (e _ _ (by omega)).trans h2, (e _ _ (by omega)).trans h3, fun p hp => ?_⟩
  obtain ⟨k1, k2, k3, k4, k5, k6, k7⟩ := h5 p hp
  exact ⟨k1, k2, k3, (e _ _ (by omega)).trans k4, (e _ _ (by omega)).trans k5, (e _ _ (by omega)).trans k6, (e _ _ (by omega)).trans k7⟩
/-- the text -/
def iTxt (M : gM) (l : Nat) : Prop := l ≤ 200 ∧ M 1 1 = (l : Int) ∧ M 81 4 = (l : Int) ∧ ∀ j, j < l → 0 ≤ M 2 j ∧ M 2 j ≤ 255 ∧ M 84 j = M 2 j
theorem iTxt_fr {M M' : gM} {l : Nat} (h : iTxt M l) (e : ∀ q i, (q = 1 ∧ i = 1) ∨ (q = 2 ∧ i < 200) ∨ (q = 81 ∧ i = 4) ∨ (q = 84 ∧ i < 200) → M' q i = M q i) : iTxt M' l := by
  obtain ⟨h1, h2, h3, h4⟩ := h
  refine ⟨h1, (e _ _ (by omega)).trans h2, (e _ _ (by omega)).trans h3, fun j hj => ?_⟩
  have := h4 j hj
  rw [e 2 j (by omega), e 84 j (by omega)]
  exact this
/-- what can be undone: the latest lies at lt in the class's ring; the j-th behind it -/
def iUnd (M : gM) (n : Nat) : Prop := ∃ u lt : Nat, ∃ T : Nat → Int, ∃ G : Nat → Nat → List Int, u ≤ 8 ∧ lt < 8 ∧ M 20 0 = (u : Int) ∧ M 20 1 = (lt : Int) ∧ M 81 1 = (u : Int) ∧ ∀ j, j < u → iGr M n (22 + 3 * ((lt + 8 - j) % 8)) (124 + 29 * (u - 1 - j)) (T j) (G j)
theorem iUnd_fr {M M' : gM} {n : Nat} (h : iUnd M n) (hn : n ≤ 7) (e : ∀ q i, (q = 20 ∧ i < 2) ∨ (22 ≤ q ∧ q < 46) ∨ (q = 81 ∧ i = 1) ∨ (q = 82 ∧ 124 ≤ i ∧ i < 356) → M' q i = M q i) : iUnd M' n := by
  obtain ⟨u, lt, T, G, h1, h2, h3, h4, h5, h6⟩ := h
  exact ⟨u, lt, T, G, h1, h2, (e _ _ (by omega)).trans h3, (e _ _ (by omega)).trans h4, (e _ _ (by omega)).trans h5, fun j hj => iGr_fr (h6 j hj) hn (fun q i hq => e q i (by omega))⟩
/-- what is kept -/
def iKep (M : gM) (n : Nat) : Prop := ∀ k, k < 2 → (M 53 k = 0 ∨ M 53 k = 1) ∧ M 83 k = M 53 k ∧ (M 53 k = 1 → ∃ t F, iGr M n (47 + 3 * k) (356 + 29 * k) t F)
theorem iKep_fr {M M' : gM} {n : Nat} (h : iKep M n) (hn : n ≤ 7) (e : ∀ q i, (47 ≤ q ∧ q < 54) ∨ (q = 83 ∧ i < 2) ∨ (q = 82 ∧ 356 ≤ i ∧ i < 414) → M' q i = M q i) : iKep M' n := fun k hk => by
  obtain ⟨h1, h2, h3⟩ := h k hk
  rw [e 53 k (by omega), e 83 k (by omega)]
  refine ⟨h1, h2, fun h4 => ?_⟩
  obtain ⟨t, F, h5⟩ := h3 h4
  exact ⟨t, F, iGr_fr h5 hn (fun q i hq => e q i (by omega))⟩
/-- what is seen -/
def iSee (M : gM) (n s : Nat) : Prop := s ≤ 6 ∧ M 54 0 = (s : Int) ∧ M 81 5 = (s : Int) ∧ ∀ k, k < s → 0 ≤ M 55 k ∧ M 55 k < (n : Int) ∧ 0 ≤ M 56 k ∧ M 56 k ≤ 12 ∧ 0 ≤ M 57 k ∧ M 57 k ≤ 9 ∧ M 85 k = M 55 k ∧ M 86 k = M 56 k ∧ M 87 k = M 57 k
theorem iSee_fr {M M' : gM} {n s : Nat} (h : iSee M n s) (e : ∀ q i, (q = 54 ∧ i = 0) ∨ (55 ≤ q ∧ q < 58) ∨ (q = 81 ∧ i = 5) ∨ (85 ≤ q ∧ q < 88) → M' q i = M q i) : iSee M' n s := by
  obtain ⟨h1, h2, h3, h4⟩ := h
  refine ⟨h1, (e _ _ (by omega)).trans h2, (e _ _ (by omega)).trans h3, fun k hk => ?_⟩
  have := h4 k hk
  rw [e 55 k (by omega), e 56 k (by omega), e 57 k (by omega), e 85 k (by omega), e 86 k (by omega), e 87 k (by omega)]
  exact this
/-- a drawer -/
def iDr (M : gM) (n d : Nat) : Prop := ((M (69 + 3 * d) 0 = 0 ∧ M 88 d = -1) ∨ (M (69 + 3 * d) 0 = 1 ∧ 0 ≤ M 88 d ∧ M 88 d ≤ 10 ∧ M (69 + 3 * d) 1 = M 88 d)) ∧ ∀ i, i < 10 → 0 ≤ M (70 + 3 * d) i ∧ M (70 + 3 * d) i ≤ 3 ∧ M 89 (10 * d + i) = (if M (70 + 3 * d) i = 3 then -1 else M (70 + 3 * d) i) ∧ rng (M (71 + 3 * d) i) ∧ M 90 (10 * d + i) = M (71 + 3 * d) i ∧ (M (69 + 3 * d) 0 = 1 → M (70 + 3 * d) i = 2 → 0 ≤ M (71 + 3 * d) i ∧ M (71 + 3 * d) i < (n : Int))
theorem iDr_fr {M M' : gM} {n d : Nat} (hd : d < 4) (h : iDr M n d) (e : ∀ q i, (q = 69 + 3 * d ∧ i < 2) ∨ (q = 70 + 3 * d ∧ i < 10) ∨ (q = 71 + 3 * d ∧ i < 10) ∨ (q = 88 ∧ i = d) ∨ ((q = 89 ∨ q = 90) ∧ 10 * d ≤ i ∧ i < 10 * d + 10) → M' q i = M q i) : iDr M' n d := by
  obtain ⟨h1, h2⟩ := h
  unfold iDr
  rw [e (69 + 3 * d) 0 (by omega), e (69 + 3 * d) 1 (by omega), e 88 d (by omega)]
  refine ⟨h1, fun i hi => ?_⟩
  have := h2 i hi
  rw [e (70 + 3 * d) i (by omega), e (71 + 3 * d) i (by omega), e 89 (10 * d + i) (by omega), e 90 (10 * d + i) (by omega)]
  exact this
def iDrs (M : gM) (n : Nat) : Prop := ∀ d, d < 4 → iDr M n d
theorem iDrs_fr {M M' : gM} {n : Nat} (h : iDrs M n) (e : ∀ q i, (69 ≤ q ∧ q < 81) ∨ (88 ≤ q ∧ q < 91) → M' q i = M q i) : iDrs M' n := fun d hd => iDr_fr hd (h d hd) (fun q i hq => e q i (by omega))
def iWrd (M : gM) : Prop := ∀ w i, 92 ≤ w → w < 99 → M w i = (gWrd w).getD i 0
def iScr (M : gM) : Prop := ∀ i, rng (M 1000 i)
/-- all of it -/
def kI (M : gM) (n : Nat) (K : Nat → Nat) (t : Int) (F : Nat → List Int) (G : Nat → List Int) (c : Nat) (A B : Nat → Nat) (c' : Nat) (A' B' : Nat → Nat) (l s : Nat) : Prop :=
  iPpl M n K ∧ iGr M n 8 0 t F ∧ iGr M n 11 62 0 G ∧ iPrs M n 14 0 c A B ∧ iPrs M n 17 62 c' A' B' ∧ iTxt M l ∧ iUnd M n ∧ iKep M n ∧ iSee M n s ∧ iDrs M n ∧ iWrd M ∧ iScr M
def kInv (M : gM) : Prop := ∃ n K t F G c A B c' A' B' l s, kI M n K t F G c A B c' A' B' l s
/-- the places that nothing between the calls rests on -/
def kScr (q i : Nat) : Prop := (q = 1 ∧ i ≠ 1) ∨ (3 ≤ q ∧ q ≤ 5) ∨ (58 ≤ q ∧ q ≤ 67) ∨ (q = 81 ∧ i ≠ 1 ∧ i ≠ 4 ∧ i ≠ 5) ∨ (q = 82 ∧ 414 ≤ i) ∨ q = 91 ∨ (99 ≤ q ∧ q ≤ 106)
theorem kI_scr {M M' : gM} {n : Nat} {K : Nat → Nat} {t : Int} {F G : Nat → List Int} {c : Nat} {A B : Nat → Nat} {c' : Nat} {A' B' : Nat → Nat} {l s : Nat} (h : kI M n K t F G c A B c' A' B' l s) (e : ∀ q i, ¬ kScr q i → M' q i = M q i) : kI M' n K t F G c A B c' A' B' l s := by
  obtain ⟨h1, h2, h3, h4, h5, h6, h7, h8, h9, h10, h11, h12⟩ := h
  unfold kScr at e
  have hn := h1.1
  exact ⟨iPpl_fr h1 (fun q i hq => e q i (by omega)), iGr_fr h2 hn (fun q i hq => e q i (by omega)), iGr_fr h3 hn (fun q i hq => e q i (by omega)), iPrs_fr h4 (fun q i hq => e q i (by omega)), iPrs_fr h5 (fun q i hq => e q i (by omega)), iTxt_fr h6 (fun q i hq => e q i (by omega)), iUnd_fr h7 hn (fun q i hq => e q i (by omega)), iKep_fr h8 hn (fun q i hq => e q i (by omega)), iSee_fr h9 (fun q i hq => e q i (by omega)), iDrs_fr h10 (fun q i hq => e q i (by omega)), fun w i h1 h2 => (e w i (by omega)).trans (h11 w i h1 h2), fun i => by rw [e 1000 i (by omega)]; exact h12 i⟩
/-- a call on both: like answers, and all holds behind it -/
def kPair (N D kc km : Nat) (as : List gV) (M : gM) : Prop := ∃ M1 r M2, gEv N D kc (.inr (.inr 1) :: as) M = some (M1, some (.inl r)) ∧ gEv N D km (.inr (.inr 82) :: as) M1 = some (M2, some (.inl r)) ∧ (∀ i, M1 1000 i = M 1000 i) ∧ M1 1001 0 = M 1001 0 ∧ kInv M2
