-- 86: the model's reading of the text; fault
def rdQ (tx : Nat → Nat) (l r s pe pa : Nat) : Option (List (Nat × List Nat)) × Nat := if s < l then (if tx s = 59 ∧ r ≠ 0 then rdT tx l r (nE tx l s) pe pa else (none, s)) else (some [], 0)
def rdJ (c : Nat × List Nat) (Q : Option (List (Nat × List Nat)) × Nat) : Option (List (Nat × List Nat)) × Nat := match Q.1 with
  | some L => (some (c :: L), 0)
  | none => (none, Q.2)
theorem rdT_succ (tx : Nat → Nat) (l r e pe pa : Nat) : rdT tx l (r + 1) e pe pa = if (rdC tx l (nS tx l e) pe pa).1 = true then rdJ (rdC tx l (nS tx l e) pe pa).2.2.2.2 (rdQ tx l r (rdC tx l (nS tx l e) pe pa).2.1 (rdC tx l (nS tx l e) pe pa).2.2.1 (rdC tx l (nS tx l e) pe pa).2.2.2.1) else (none, (rdC tx l (nS tx l e) pe pa).2.1) := by
  simp only [rdT]
  generalize rdC tx l (nS tx l e) pe pa = R
  by_cases h : R.1 = true
  · rw [if_pos h, if_pos h]
    unfold rdQ
    by_cases h1 : R.2.1 < l
    · rw [if_pos h1, if_pos h1]
      by_cases h2 : tx R.2.1 = 59 ∧ r ≠ 0
      · rw [if_pos h2, if_pos h2]
        rfl
      · rw [if_neg h2, if_neg h2]
        rfl
    · rw [if_neg h1, if_neg h1]
      rfl
  · rw [if_neg h, if_neg h]
def exL (L : List (Nat × List Nat)) (T : TT) : TT := L.foldl (fun T c => exC c T) T
/-- the model's reading has gone as Q says -/
def mrQ (Q : Option (List (Nat × List Nat)) × Nat) (b : Bool) (T : TT) (M M' : gM) : Prop := (Q.1 = none → M' 81 12 = ((Q.2 : Nat) : Int)) ∧ (b = true → ∀ L, Q.1 = some L → tdM M' (exL L T) ∧ tdO (exL L T)) ∧ (b = false → ∀ i, M' 82 i = M 82 i) ∧ ∀ q i, ¬ (q = 91 ∨ (q = 82 ∧ 62 ≤ i ∧ i < 124) ∨ (q = 81 ∧ 12 ≤ i ∧ i ≤ 17)) → M' q i = M q i
theorem rdJ_some (c : Nat × List Nat) (Q : Option (List (Nat × List Nat)) × Nat) : (rdJ c Q).1.isSome = Q.1.isSome := by
  unfold rdJ
  cases Q.1 <;> rfl
theorem rdJ_get {c : Nat × List Nat} {Q : Option (List (Nat × List Nat)) × Nat} {L : List (Nat × List Nat)} (h : (rdJ c Q).1 = some L) : ∃ L1, Q.1 = some L1 ∧ L = c :: L1 := by
  unfold rdJ at h
  cases hQ : Q.1 with
  | none => rw [hQ] at h; cases h
  | some L1 => rw [hQ] at h; cases h; exact ⟨L1, rfl, rfl⟩
theorem mrQ_J {c : Nat × List Nat} {Q : Option (List (Nat × List Nat)) × Nat} {b : Bool} {T : TT} {M M1 M' : gM} (h : mrQ Q b (exC c T) M1 M') (h1 : b = false → ∀ i, M1 82 i = M 82 i) (h2 : ∀ q i, ¬ (q = 91 ∨ (q = 82 ∧ 62 ≤ i ∧ i < 124) ∨ (q = 81 ∧ 12 ≤ i ∧ i ≤ 17)) → M1 q i = M q i) : mrQ (rdJ c Q) b T M M' := by
  obtain ⟨g1, g2, g3, g4⟩ := h
  refine ⟨fun hn => ?_, fun hb L hL => ?_, fun hb i => (g3 hb i).trans (h1 hb i), fun q i hq => (g4 q i hq).trans (h2 q i hq)⟩
  · unfold rdJ at hn ⊢
    cases hQ : Q.1 with
    | none => rw [hQ] at hn; exact g1 hQ
    | some L => rw [hQ] at hn; cases hn
  · unfold rdJ at hL
    cases hQ : Q.1 with
    | none => rw [hQ] at hL; cases hL
    | some L1 =>
      rw [hQ] at hL
      cases hL
      exact g2 hb L1 hQ
theorem l_mr46 (N d : Nat) (tx : Nat → Nat) (l : Nat) (b : Bool) (x1 : Int) (hN : 2000 ≤ N) : ∀ (r k z s pe pa : Nat) (M : gM) (T : TT), k + r = 20 → r + 1 < z → s ≤ l → txtM M tx l → tokM M tx l s → M 81 14 = (pe : Int) → M 81 15 = (pa : Int) → M 81 16 = (k : Int) → M 81 17 = bI b → pe ≤ 7 → pa ≤ 12 → (b = true → tdM M T ∧ tdO T ∧ T.1 = pe ∧ T.2.2.2.1 = pa) → iWrd M → ∃ M', L_X10_reads_46 (gEv N (d + 6)) z x1 1 M = some (M', some (.inl (bI (rdQ tx l r s pe pa).1.isSome))) ∧ mrQ (rdQ tx l r s pe pa) b T M M' ∧ ∀ L, (rdQ tx l r s pe pa).1 = some L → M' 81 16 = ((k + L.length : Nat) : Int) := by
  intro r
  induction r with
  | zero =>
    intro k z s pe pa M T hk hz hs hT hK h14 h15 h16 h17 hpe hpa hb hW
    obtain ⟨z, rfl⟩ : ∃ y, z = y + 1 := ⟨z - 1, by omega⟩
    have f0 : ∀ (y : Nat) (M : gM), 1 ≤ y → L_X10_reads_46 (gEv N (d + 6)) y x1 0 M = some (M, some (.inl 0)) := fun y M hy => by
      obtain ⟨y, rfl⟩ : ∃ x, y = x + 1 := ⟨y - 1, by omega⟩
      rw [q_X10_reads_46, gEq_refl, cond_true, gB01_0, gIf_t]
    obtain ⟨t1, t2, t3⟩ := id hT
    have e := q_X10_reads_46 (gEv N (d + 6)) z x1 1 M
    rw [gEq_f (by decide) (by decide) (by decide) (by decide) (by decide), cond_false, hK.1, t2] at e
    unfold rdQ
    by_cases h1 : s < l
    · rw [if_pos h1, if_neg (fun w => w.2 rfl)]
      rw [gLt_t (by omega) (by omega) (by omega), cond_true, h16, gLt_f (by omega) (by omega) (by omega), cond_false, gEq_refl, cond_true, f0 _ M (by omega)] at e
      exact ⟨M, e, ⟨fun _ => hK.1, fun _ L hL => (by cases hL), fun _ _ => rfl, fun _ _ _ => rfl⟩, fun L hL => (by cases hL)⟩
    · rw [if_neg h1]
      rw [gLt_f (by omega) (by omega) (by omega), cond_false, gB01_1, gIf_t] at e
      exact ⟨M, e, ⟨fun h => (by cases h), fun hbt L hL => (by cases hL; exact ⟨(hb hbt).1, (hb hbt).2.1⟩), fun _ _ => rfl, fun _ _ _ => rfl⟩, fun L hL => (by cases hL; exact h16)⟩
  | succ r ih =>
    intro k z s pe pa M T hk hz hs hT hK h14 h15 h16 h17 hpe hpa hb hW
    obtain ⟨z, rfl⟩ : ∃ y, z = y + 1 := ⟨z - 1, by omega⟩
    have f0 : ∀ (y : Nat) (M : gM), 1 ≤ y → L_X10_reads_46 (gEv N (d + 6)) y x1 0 M = some (M, some (.inl 0)) := fun y M hy => by
      obtain ⟨y, rfl⟩ : ∃ x, y = x + 1 := ⟨y - 1, by omega⟩
      rw [q_X10_reads_46, gEq_refl, cond_true, gB01_0, gIf_t]
    obtain ⟨t1, t2, t3⟩ := id hT
    have e := q_X10_reads_46 (gEv N (d + 6)) z x1 1 M
    rw [gEq_f (by decide) (by decide) (by decide) (by decide) (by decide), cond_false, hK.1, t2] at e
    unfold rdQ
    by_cases h1 : s < l
    · rw [if_pos h1]
      obtain ⟨t4, t5⟩ := t3 s h1
      rw [gLt_t (by omega) (by omega) (by omega), cond_true, h16, gLt_t (by omega) (by omega) (by omega), cond_true, gInb_t (by omega) (by omega) (by omega), gIf_t, gIx_e (x := (s : Int)) (n := s) rfl (by omega), t4] at e
      by_cases h2 : tx s = 59
      · rw [if_pos ⟨h2, by omega⟩, rdT_succ]
        have hE := nE_le (tx := tx) hs
        have hS := nS_le (tx := tx) hE.2.1
        obtain ⟨M1, g1, g2, g3⟩ := s_nextTok N (d + 3) tx l (nE tx l s) M hN hT hE.2.1 hK.2
        have hT1 : txtM M1 tx l := txtM_fr hT (fun q i hq => g3 q i (by omega))
        have hW1 : iWrd M1 := fun w i a1 a2 => (g3 _ _ (by omega)).trans (hW w i a1 a2)
        obtain ⟨M2, c1, c2, c3, c4, c5⟩ := s_mclause N d tx l (nS tx l (nE tx l s)) pe pa b T M1 hN hS.2 hT1 g2 ((g3 _ _ (by omega)).trans h14) ((g3 _ _ (by omega)).trans h15) ((g3 _ _ (by omega)).trans h17) hpe hpa (fun hbt => ⟨tdM_fr (hb hbt).1 (hb hbt).2.1 (fun i _ _ => g3 _ _ (by omega)), (hb hbt).2⟩) hW1
        obtain ⟨o1, o2, o3, o4⟩ := rdC_ok tx l (nS tx l (nE tx l s)) pe pa hS.2 hpe hpa
        have hx : ∀ h : (rdC tx l (nS tx l (nE tx l s)) pe pa).1 = true, b = true → tdO (exC (rdC tx l (nS tx l (nE tx l s)) pe pa).2.2.2.2 T) ∧ (exC (rdC tx l (nS tx l (nE tx l s)) pe pa).2.2.2.2 T).1 = (rdC tx l (nS tx l (nE tx l s)) pe pa).2.2.1 ∧ (exC (rdC tx l (nS tx l (nE tx l s)) pe pa).2.2.2.2 T).2.2.2.1 = (rdC tx l (nS tx l (nE tx l s)) pe pa).2.2.2.1 := fun h hbt => by
          obtain ⟨b1, b2, b3, b4⟩ := hb hbt
          have := exC_ok (T := T) hS.2 b2 (by rw [b3, b4]; exact h)
          rw [b3, b4] at this
          exact this
        rw [gEq_t (by omega), cond_true, cond_false, g1, gCv_some, c1, gCi_some, c5 81 16 (by omega), g3 81 16 (by omega), h16, cast_1 k] at e
        have f2 : ∀ q i, ¬ (q = 91 ∨ (q = 82 ∧ 62 ≤ i ∧ i < 124) ∨ (q = 81 ∧ 12 ≤ i ∧ i ≤ 16)) → gU M2 81 16 ((k + 1 : Nat) : Int) q i = M q i := fun q i hq => (gU_off _ _ (by omega)).trans ((c5 q i (by omega)).trans (g3 q i (by omega)))
        have f82 : b = false → ∀ i, gU M2 81 16 ((k + 1 : Nat) : Int) 82 i = M 82 i := fun hbf i => (gU_off _ _ (by omega)).trans ((c4 hbf i).trans (g3 _ _ (by omega)))
        generalize hR : rdC tx l (nS tx l (nE tx l s)) pe pa = R at *
        by_cases hok : R.1 = true
        · rw [if_pos hok]
          obtain ⟨u1, u2, u3, u4⟩ := c3 hok
          obtain ⟨o5, o6⟩ := o4 hok
          rw [hok] at e
          obtain ⟨M3, y1, y2, y3⟩ := ih (k + 1) z R.2.1 R.2.2.1 R.2.2.2.1 (gU M2 81 16 ((k + 1 : Nat) : Int)) (exC R.2.2.2.2 T) (by omega) (by omega) o1 (txtM_fr hT (fun q i hq => f2 q i (by omega))) ⟨(gU_off _ _ (by omega)).trans u1.1, (gU_off _ _ (by omega)).trans u1.2⟩ ((gU_off _ _ (by omega)).trans u2) ((gU_off _ _ (by omega)).trans u3) (gU_same _ _ _ _) ((f2 _ _ (by omega)).trans h17) o5 o6 (fun hbt => ⟨tdM_fr (u4 hbt) (hx hok hbt).1 (fun i _ _ => gU_off _ _ (by omega)), hx hok hbt⟩) (fun w i a1 a2 => (f2 _ _ (by omega)).trans (hW w i a1 a2))
          rw [rdJ_some]
          refine ⟨M3, e.trans y1, mrQ_J y2 f82 (fun q i hq => f2 q i (by omega)), fun L hL => ?_⟩
          obtain ⟨L1, z1, rfl⟩ := rdJ_get hL
          rw [y3 L1 z1, List.length_cons]
          omega
        · rw [if_neg hok]
          have hf : R.1 = false := by cases h : R.1 <;> simp_all
          rw [hf, show bI false = 0 from rfl, f0 z _ (by omega)] at e
          exact ⟨_, e, ⟨fun _ => (gU_off _ _ (by omega)).trans c2, fun _ L hL => (by cases hL), f82, fun q i hq => f2 q i (by omega)⟩, fun L hL => (by cases hL)⟩
      · rw [if_neg (fun w => h2 w.1)]
        rw [gEq_f (by omega) (by omega) (by omega) (by omega) (by omega), cond_false, gEq_refl, cond_true, f0 z M (by omega)] at e
        exact ⟨M, e, ⟨fun _ => hK.1, fun _ L hL => (by cases hL), fun _ _ => rfl, fun _ _ _ => rfl⟩, fun L hL => (by cases hL)⟩
    · rw [if_neg h1]
      rw [gLt_f (by omega) (by omega) (by omega), cond_false, gB01_1, gIf_t] at e
      exact ⟨M, e, ⟨fun h => (by cases h), fun hbt L hL => (by cases hL; exact ⟨(hb hbt).1, (hb hbt).2.1⟩), fun _ _ => rfl, fun _ _ _ => rfl⟩, fun L hL => (by cases hL; exact h16)⟩
theorem s_mreads (N d : Nat) (tx : Nat → Nat) (l : Nat) (b : Bool) (T : TT) (M : gM) (hN : 2000 ≤ N) (hT : txtM M tx l) (hd : tdM M T) (hO : tdO T) (hW : iWrd M) : ∃ M', gEv N (d + 7) 112 [.inr (.inr 82), .inl (bI b)] M = some (M', some (.inl (bI (rdT tx l 20 0 T.1 T.2.2.2.1).1.isSome))) ∧ mrQ (rdT tx l 20 0 T.1 T.2.2.2.1) b T M M' ∧ ∀ L, (rdT tx l 20 0 T.1 T.2.2.2.1).1 = some L → M' 81 16 = ((L.length : Nat) : Int) := by
  have e := q_X10_reads N (d + 6) (bI b) M
  obtain ⟨d1, d2, d3, d4, d5⟩ := id hd
  obtain ⟨o1, o2, o3, o4⟩ := id hO
  have i91 := gIx_e (x := 91) (n := 91) rfl (by omega)
  have i99 := gIx_e (x := 99) (n := 99) rfl (by omega)
  have y91 : gU (gU (gU M 81 17 (bI b)) 81 13 0) 81 16 1 82 91 = (T.1 : Int) := by rw [gU_off _ _ (by omega), gU_off _ _ (by omega), gU_off _ _ (by omega), d1]
  have y99 : gU (gU (gU (gU M 81 17 (bI b)) 81 13 0) 81 16 1) 81 14 (T.1 : Int) 82 99 = (T.2.2.2.1 : Int) := by rw [gU_off _ _ (by omega), gU_off _ _ (by omega), gU_off _ _ (by omega), gU_off _ _ (by omega), d4]
  rw [bI_B, gIf_t, gInb_t (by omega) (by omega) (by omega), gIf_t, gInb_t (by omega) (by omega) (by omega), gIf_t, i91, i99, y91, y99] at e
  have f1 : ∀ q i, ¬ (q = 81 ∧ 13 ≤ i ∧ i ≤ 17) → gU (gU (gU (gU (gU M 81 17 (bI b)) 81 13 0) 81 16 1) 81 14 (T.1 : Int)) 81 15 (T.2.2.2.1 : Int) q i = M q i := fun q i hq => by rw [gU_off _ _ (by omega), gU_off _ _ (by omega), gU_off _ _ (by omega), gU_off _ _ (by omega), gU_off _ _ (by omega)]
  have w13 : gU (gU (gU (gU (gU M 81 17 (bI b)) 81 13 0) 81 16 1) 81 14 (T.1 : Int)) 81 15 (T.2.2.2.1 : Int) 81 13 = ((0 : Nat) : Int) := by rw [gU_off _ _ (by omega), gU_off _ _ (by omega), gU_off _ _ (by omega), gU_same]; rfl
  have w14 : gU (gU (gU (gU (gU M 81 17 (bI b)) 81 13 0) 81 16 1) 81 14 (T.1 : Int)) 81 15 (T.2.2.2.1 : Int) 81 14 = (T.1 : Int) := by rw [gU_off _ _ (by omega), gU_same]
  have w15 : gU (gU (gU (gU (gU M 81 17 (bI b)) 81 13 0) 81 16 1) 81 14 (T.1 : Int)) 81 15 (T.2.2.2.1 : Int) 81 15 = (T.2.2.2.1 : Int) := gU_same _ _ _ _
  have w16 : gU (gU (gU (gU (gU M 81 17 (bI b)) 81 13 0) 81 16 1) 81 14 (T.1 : Int)) 81 15 (T.2.2.2.1 : Int) 81 16 = ((1 : Nat) : Int) := by rw [gU_off _ _ (by omega), gU_off _ _ (by omega), gU_same]; rfl
  have w17 : gU (gU (gU (gU (gU M 81 17 (bI b)) 81 13 0) 81 16 1) 81 14 (T.1 : Int)) 81 15 (T.2.2.2.1 : Int) 81 17 = bI b := by rw [gU_off _ _ (by omega), gU_off _ _ (by omega), gU_off _ _ (by omega), gU_off _ _ (by omega), gU_same]
  generalize gU (gU (gU (gU (gU M 81 17 (bI b)) 81 13 0) 81 16 1) 81 14 (T.1 : Int)) 81 15 (T.2.2.2.1 : Int) = M0 at e f1 w13 w14 w15 w16 w17
  have hT0 : txtM M0 tx l := txtM_fr hT (fun q i hq => f1 q i (by omega))
  obtain ⟨M1, g1, g2, g3⟩ := s_nextTok N (d + 3) tx l 0 M0 hN hT0 (Nat.zero_le _) w13
  have hS := nS_le (tx := tx) (Nat.zero_le l)
  have hT1 : txtM M1 tx l := txtM_fr hT0 (fun q i hq => g3 q i (by omega))
  have hW1 : iWrd M1 := fun w i a1 a2 => (g3 _ _ (by omega)).trans ((f1 _ _ (by omega)).trans (hW w i a1 a2))
  have hd1 : tdM M1 T := tdM_fr hd hO (fun i _ _ => (g3 _ _ (by omega)).trans (f1 _ _ (by omega)))
  obtain ⟨M2, c1, c2, c3, c4, c5⟩ := s_mclause N d tx l (nS tx l 0) T.1 T.2.2.2.1 b T M1 hN hS.2 hT1 g2 ((g3 _ _ (by omega)).trans w14) ((g3 _ _ (by omega)).trans w15) ((g3 _ _ (by omega)).trans w17) o1 o2 (fun _ => ⟨hd1, hO, rfl, rfl⟩) hW1
  obtain ⟨p1, p2, p3, p4⟩ := rdC_ok tx l (nS tx l 0) T.1 T.2.2.2.1 hS.2 o1 o2
  have hx := exC_ok (T := T) (tx := tx) (l := l) (s := nS tx l 0) hS.2 hO
  rw [g1, gCv_some, c1, gCi_some] at e
  rw [show (20 : Nat) = 19 + 1 from rfl, rdT_succ]
  have f2 : ∀ q i, ¬ (q = 91 ∨ (q = 82 ∧ 62 ≤ i ∧ i < 124) ∨ (q = 81 ∧ 12 ≤ i ∧ i ≤ 17)) → M2 q i = M q i := fun q i hq => (c5 q i (by omega)).trans ((g3 q i (by omega)).trans (f1 q i (by omega)))
  have f82 : b = false → ∀ i, M2 82 i = M 82 i := fun hbf i => (c4 hbf i).trans ((g3 _ _ (by omega)).trans (f1 _ _ (by omega)))
  generalize hR : rdC tx l (nS tx l 0) T.1 T.2.2.2.1 = R at *
  by_cases hok : R.1 = true
  · rw [if_pos hok]
    obtain ⟨u1, u2, u3, u4⟩ := c3 hok
    obtain ⟨o5, o6⟩ := p4 hok
    obtain ⟨x1, x2, x3⟩ := hx hok
    rw [hok] at e
    obtain ⟨M3, y1, y2, y3⟩ := l_mr46 N d tx l b (bI b) hN 19 1 N R.2.1 R.2.2.1 R.2.2.2.1 M2 (exC R.2.2.2.2 T) (by omega) (by omega) p1 (txtM_fr hT (fun q i hq => f2 q i (by omega))) u1 u2 u3 ((c5 _ _ (by omega)).trans ((g3 _ _ (by omega)).trans w16)) ((c5 _ _ (by omega)).trans ((g3 _ _ (by omega)).trans w17)) o5 o6 (fun hbt => ⟨u4 hbt, x1, x2, x3⟩) (fun w i a1 a2 => (f2 _ _ (by omega)).trans (hW w i a1 a2))
    rw [rdJ_some]
    refine ⟨M3, e.trans y1, mrQ_J y2 f82 f2, fun L hL => ?_⟩
    obtain ⟨L1, z1, rfl⟩ := rdJ_get hL
    rw [y3 L1 z1, List.length_cons]
    omega
  · rw [if_neg hok]
    have hf : R.1 = false := by cases h : R.1 <;> simp_all
    obtain ⟨y, rfl⟩ : ∃ y, N = y + 1 := ⟨N - 1, by omega⟩
    rw [hf, show bI false = 0 from rfl, q_X10_reads_46, gEq_refl, cond_true, gB01_0, gIf_t] at e
    exact ⟨M2, e, ⟨fun _ => c2, fun _ L hL => (by cases hL), f82, f2⟩, fun L hL => (by cases hL)⟩
