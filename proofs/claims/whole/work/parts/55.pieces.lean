-- 55: a piece changed, the others as they were (by program)
theorem kI_txt {M M' : gM} {n : Nat} {K : Nat → Nat} {t : Int} {F G : Nat → List Int} {c : Nat} {A B : Nat → Nat} {c' : Nat} {A' B' : Nat → Nat} {l s : Nat} {l2 : Nat} (gX : iTxt M' l2) (h : kI M n K t F G c A B c' A' B' l s) (e : ∀ q i, ¬ (kScr q i ∨ (q = 1 ∧ i = 1) ∨ q = 2 ∨ (q = 81 ∧ i = 4) ∨ q = 84) → M' q i = M q i) : kI M' n K t F G c A B c' A' B' l2 s := by
  obtain ⟨h1, h2, h3, h4, h5, h6, h7, h8, h9, h10, h11, h12⟩ := h
  unfold kScr at e
  have hn := h1.1
  exact ⟨iPpl_fr h1 (fun q i hq => e q i (by omega)), iGr_fr h2 hn (fun q i hq => e q i (by omega)), iGr_fr h3 hn (fun q i hq => e q i (by omega)), iPrs_fr h4 (fun q i hq => e q i (by omega)), iPrs_fr h5 (fun q i hq => e q i (by omega)), gX, iUnd_fr h7 hn (fun q i hq => e q i (by omega)), iKep_fr h8 hn (fun q i hq => e q i (by omega)), iSee_fr h9 (fun q i hq => e q i (by omega)), iDrs_fr h10 (fun q i hq => e q i (by omega)), fun w i h1 h2 => (e w i (by omega)).trans (h11 w i h1 h2), fun i => by rw [e 1000 i (by omega)]; exact h12 i⟩
theorem kI_prs {M M' : gM} {n : Nat} {K : Nat → Nat} {t : Int} {F G : Nat → List Int} {c : Nat} {A B : Nat → Nat} {c' : Nat} {A' B' : Nat → Nat} {l s : Nat} {c2 : Nat} {A2 B2 : Nat → Nat} (gQ : iPrs M' n 14 0 c2 A2 B2) (h : kI M n K t F G c A B c' A' B' l s) (e : ∀ q i, ¬ (kScr q i ∨ q = 14 ∨ q = 15 ∨ q = 16 ∨ (q = 82 ∧ 37 ≤ i ∧ i < 62)) → M' q i = M q i) : kI M' n K t F G c2 A2 B2 c' A' B' l s := by
  obtain ⟨h1, h2, h3, h4, h5, h6, h7, h8, h9, h10, h11, h12⟩ := h
  unfold kScr at e
  have hn := h1.1
  exact ⟨iPpl_fr h1 (fun q i hq => e q i (by omega)), iGr_fr h2 hn (fun q i hq => e q i (by omega)), iGr_fr h3 hn (fun q i hq => e q i (by omega)), gQ, iPrs_fr h5 (fun q i hq => e q i (by omega)), iTxt_fr h6 (fun q i hq => e q i (by omega)), iUnd_fr h7 hn (fun q i hq => e q i (by omega)), iKep_fr h8 hn (fun q i hq => e q i (by omega)), iSee_fr h9 (fun q i hq => e q i (by omega)), iDrs_fr h10 (fun q i hq => e q i (by omega)), fun w i h1 h2 => (e w i (by omega)).trans (h11 w i h1 h2), fun i => by rw [e 1000 i (by omega)]; exact h12 i⟩
theorem kI_now {M M' : gM} {n : Nat} {K : Nat → Nat} {t : Int} {F G : Nat → List Int} {c : Nat} {A B : Nat → Nat} {c' : Nat} {A' B' : Nat → Nat} {l s : Nat} {t2 : Int} {F2 : Nat → List Int} (gW : iGr M' n 8 0 t2 F2) (gU : iUnd M' n) (h : kI M n K t F G c A B c' A' B' l s) (e : ∀ q i, ¬ (kScr q i ∨ (8 ≤ q ∧ q ≤ 10) ∨ (20 ≤ q ∧ q < 46) ∨ (q = 82 ∧ i < 29) ∨ (q = 82 ∧ 124 ≤ i ∧ i < 356) ∨ (q = 81 ∧ i = 1)) → M' q i = M q i) : kI M' n K t2 F2 G c A B c' A' B' l s := by
  obtain ⟨h1, h2, h3, h4, h5, h6, h7, h8, h9, h10, h11, h12⟩ := h
  unfold kScr at e
  have hn := h1.1
  exact ⟨iPpl_fr h1 (fun q i hq => e q i (by omega)), gW, iGr_fr h3 hn (fun q i hq => e q i (by omega)), iPrs_fr h4 (fun q i hq => e q i (by omega)), iPrs_fr h5 (fun q i hq => e q i (by omega)), iTxt_fr h6 (fun q i hq => e q i (by omega)), gU, iKep_fr h8 hn (fun q i hq => e q i (by omega)), iSee_fr h9 (fun q i hq => e q i (by omega)), iDrs_fr h10 (fun q i hq => e q i (by omega)), fun w i h1 h2 => (e w i (by omega)).trans (h11 w i h1 h2), fun i => by rw [e 1000 i (by omega)]; exact h12 i⟩
theorem kI_kep {M M' : gM} {n : Nat} {K : Nat → Nat} {t : Int} {F G : Nat → List Int} {c : Nat} {A B : Nat → Nat} {c' : Nat} {A' B' : Nat → Nat} {l s : Nat}  (gKp : iKep M' n) (h : kI M n K t F G c A B c' A' B' l s) (e : ∀ q i, ¬ (kScr q i ∨ (47 ≤ q ∧ q < 54) ∨ (q = 83 ∧ i < 2) ∨ (q = 82 ∧ 356 ≤ i ∧ i < 414)) → M' q i = M q i) : kI M' n K t F G c A B c' A' B' l s := by
  obtain ⟨h1, h2, h3, h4, h5, h6, h7, h8, h9, h10, h11, h12⟩ := h
  unfold kScr at e
  have hn := h1.1
  exact ⟨iPpl_fr h1 (fun q i hq => e q i (by omega)), iGr_fr h2 hn (fun q i hq => e q i (by omega)), iGr_fr h3 hn (fun q i hq => e q i (by omega)), iPrs_fr h4 (fun q i hq => e q i (by omega)), iPrs_fr h5 (fun q i hq => e q i (by omega)), iTxt_fr h6 (fun q i hq => e q i (by omega)), iUnd_fr h7 hn (fun q i hq => e q i (by omega)), gKp, iSee_fr h9 (fun q i hq => e q i (by omega)), iDrs_fr h10 (fun q i hq => e q i (by omega)), fun w i h1 h2 => (e w i (by omega)).trans (h11 w i h1 h2), fun i => by rw [e 1000 i (by omega)]; exact h12 i⟩
theorem kI_see {M M' : gM} {n : Nat} {K : Nat → Nat} {t : Int} {F G : Nat → List Int} {c : Nat} {A B : Nat → Nat} {c' : Nat} {A' B' : Nat → Nat} {l s : Nat} {s2 : Nat} (gS : iSee M' n s2) (h : kI M n K t F G c A B c' A' B' l s) (e : ∀ q i, ¬ (kScr q i ∨ (54 ≤ q ∧ q < 58) ∨ (q = 81 ∧ i = 5) ∨ (85 ≤ q ∧ q < 88)) → M' q i = M q i) : kI M' n K t F G c A B c' A' B' l s2 := by
  obtain ⟨h1, h2, h3, h4, h5, h6, h7, h8, h9, h10, h11, h12⟩ := h
  unfold kScr at e
  have hn := h1.1
  exact ⟨iPpl_fr h1 (fun q i hq => e q i (by omega)), iGr_fr h2 hn (fun q i hq => e q i (by omega)), iGr_fr h3 hn (fun q i hq => e q i (by omega)), iPrs_fr h4 (fun q i hq => e q i (by omega)), iPrs_fr h5 (fun q i hq => e q i (by omega)), iTxt_fr h6 (fun q i hq => e q i (by omega)), iUnd_fr h7 hn (fun q i hq => e q i (by omega)), iKep_fr h8 hn (fun q i hq => e q i (by omega)), gS, iDrs_fr h10 (fun q i hq => e q i (by omega)), fun w i h1 h2 => (e w i (by omega)).trans (h11 w i h1 h2), fun i => by rw [e 1000 i (by omega)]; exact h12 i⟩
theorem kI_drs {M M' : gM} {n : Nat} {K : Nat → Nat} {t : Int} {F G : Nat → List Int} {c : Nat} {A B : Nat → Nat} {c' : Nat} {A' B' : Nat → Nat} {l s : Nat}  (gD : iDrs M' n) (h : kI M n K t F G c A B c' A' B' l s) (e : ∀ q i, ¬ (kScr q i ∨ (69 ≤ q ∧ q < 81) ∨ (88 ≤ q ∧ q < 91)) → M' q i = M q i) : kI M' n K t F G c A B c' A' B' l s := by
  obtain ⟨h1, h2, h3, h4, h5, h6, h7, h8, h9, h10, h11, h12⟩ := h
  unfold kScr at e
  have hn := h1.1
  exact ⟨iPpl_fr h1 (fun q i hq => e q i (by omega)), iGr_fr h2 hn (fun q i hq => e q i (by omega)), iGr_fr h3 hn (fun q i hq => e q i (by omega)), iPrs_fr h4 (fun q i hq => e q i (by omega)), iPrs_fr h5 (fun q i hq => e q i (by omega)), iTxt_fr h6 (fun q i hq => e q i (by omega)), iUnd_fr h7 hn (fun q i hq => e q i (by omega)), iKep_fr h8 hn (fun q i hq => e q i (by omega)), iSee_fr h9 (fun q i hq => e q i (by omega)), gD, fun w i h1 h2 => (e w i (by omega)).trans (h11 w i h1 h2), fun i => by rw [e 1000 i (by omega)]; exact h12 i⟩
