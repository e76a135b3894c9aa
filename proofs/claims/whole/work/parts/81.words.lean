-- 81: words and numbers
def eqW (tx : Nat → Nat) (s : Nat) : List Nat → Bool
  | [] => true
  | c :: w => (tx s == c) && eqW tx (s + 1) w
def isWB (tx : Nat → Nat) (l s : Nat) (w : List Nat) : Bool := (nE tx l s - s == w.length) && eqW tx s w
set_option maxRecDepth 100000 in
theorem s_len (N d j : Nat) (M : gM) (hj : j < 7) : gEv N (d + 7) 900 [.inr (.inr (1010 + j + 1))] M = some (M, some (.inl (((gStr j).length : Nat) : Int))) := by
  rcases (by omega : j = 0 ∨ j = 1 ∨ j = 2 ∨ j = 3 ∨ j = 4 ∨ j = 5 ∨ j = 6) with rfl | rfl | rfl | rfl | rfl | rfl | rfl <;> rfl
set_option maxRecDepth 100000 in
theorem s_chr0 (N d j : Nat) (i : Int) (M : gM) (hj : j < 7) : gEv N (d + 7) 901 [.inr (.inr (1010 + j + 1)), .inl i] M = gIf (gInb i (gStr j).length) (some (M, some (.inl (((gStr j).getD (gIx i) 0 : Nat) : Int)))) := by
  rcases (by omega : j = 0 ∨ j = 1 ∨ j = 2 ∨ j = 3 ∨ j = 4 ∨ j = 5 ∨ j = 6) with rfl | rfl | rfl | rfl | rfl | rfl | rfl <;> rfl
theorem gStr_len (j : Nat) : (gStr j).length ≤ 7 := by
  match j with
  | 0 => decide
  | 1 => decide
  | 2 => decide
  | 3 => decide
  | 4 => decide
  | 5 => decide
  | j + 6 => exact (by decide : ([112, 97, 105, 114] : List Nat).length ≤ 7)
theorem gStr_bd (j : Nat) : ∀ c, c ∈ gStr j → c ≤ 255 := by
  match j with
  | 0 => decide
  | 1 => decide
  | 2 => decide
  | 3 => decide
  | 4 => decide
  | 5 => decide
  | j + 6 => exact (by decide : ∀ c, c ∈ ([112, 97, 105, 114] : List Nat) → c ≤ 255)
theorem wPl {j : Nat} (hj : j < 7) : 1010 + j = 1010 ∨ 1010 + j = 1011 ∨ 1010 + j = 1012 ∨ 1010 + j = 1013 ∨ 1010 + j = 1014 ∨ 1010 + j = 1015 ∨ 1010 + j = 1016 := by omega
theorem l_sp20 (N d : Nat) (tx : Nat → Nat) (l s j : Nat) (M : gM) (hj : j < 7) (hT : txtX M tx l) (h8 : M 1 8 = (s : Int)) (hl : s + (gStr j).length ≤ l) : ∀ (w : List Nat) (k z : Nat), k + w.length = (gStr j).length → (∀ i, i < w.length → (gStr j).getD (k + i) 0 = w.getD i 0) → (∀ c, c ∈ w → c ≤ 255) → w.length < z → L_X7_isSpelledHere_20 (gEv N (d + 7)) z (1010 + j) (k : Int) M = some (M, some (.inl (bI (eqW tx (s + k) w)))) := by
  obtain ⟨t1, t2, t3⟩ := hT
  have hj7 := gStr_len j
  intro w
  induction w with
  | nil =>
    intro k z hk _ _ hz
    obtain ⟨z, rfl⟩ : ∃ y, z = y + 1 := ⟨z - 1, by omega⟩
    simp only [List.length_nil, Nat.add_zero] at hk
    rw [q_X7_isSpelledHere_20 _ _ _ _ _ (wPl hj), s_len N d j M hj, gCi_some, gLt_f (by omega) (by omega) (by omega), cond_false, gB01_1, gIf_t]
    rfl
  | cons c w ih =>
    intro k z hk hw hc hz
    obtain ⟨z, rfl⟩ : ∃ y, z = y + 1 := ⟨z - 1, by omega⟩
    simp only [List.length_cons] at hk hz
    obtain ⟨t4, t5⟩ := t3 (s + k) (by omega)
    have hg := hw 0 (by simp)
    simp only [Nat.add_zero, List.getD_cons_zero] at hg
    have hcb := hc c (by simp)
    have ih2 := ih (k + 1) z (by omega) (fun i hi => by
      have := hw (i + 1) (by simp; omega)
      rw [show k + 1 + i = k + (i + 1) by omega, this]
      rfl) (fun x hx => hc x (by simp [hx])) (by omega)
    rw [q_X7_isSpelledHere_20 _ _ _ _ _ (wPl hj), s_len N d j M hj, gCi_some, gLt_t (by omega) (by omega) (by omega), cond_true, s_chr0 N d j (k : Int) M hj, gIx_e (x := (k : Int)) (n := k) rfl (by omega), hg, gInb_e (x := (k : Int)) (k := k) rfl (by omega) (by omega), gIf_t, gCi_some, h8, gIx_e (x := (s : Int) + (k : Int)) (n := s + k) (by omega) (by omega), t4, cast_1 k, ih2, gInb_t (by omega) (by omega) (by omega), gIf_t]
    simp only [eqW]
    by_cases h : tx (s + k) = c
    · rw [gEq_t (by omega), cond_true, h]
      rw [show (c == c) = true by simp, Bool.true_and, show s + (k + 1) = s + k + 1 by omega]
    · rw [gEq_f (by omega) (by omega) (by omega) (by omega) (by omega), cond_false, gB01_0, gIf_t]
      rw [show (tx (s + k) == c) = false by simpa using h, Bool.false_and]
      rfl
theorem s_spell (N d : Nat) (tx : Nat → Nat) (l s j : Nat) (M : gM) (hN : 100 ≤ N) (hj : j < 7) (hT : txtX M tx l) (hs : s ≤ l) (hK : tokX M tx l s) : gEv N (d + 8) 49 [.inr (.inr 2), .inr (.inr (1010 + j + 1))] M = some (M, some (.inl (bI (isWB tx l s (gStr j))))) := by
  obtain ⟨h8, h9, h10⟩ := hK
  have hj7 := gStr_len j
  have hE := nE_le (tx := tx) hs
  have hT1 := hT.1
  rw [q_X7_isSpelledHere _ _ _ _ (wPl hj), s_len N d j M hj, gCi_some, h8, h9]
  unfold isWB
  by_cases h : nE tx l s - s = (gStr j).length
  · rw [gEq_t (by omega), cond_true, h, show ((gStr j).length == (gStr j).length) = true by simp, Bool.true_and]
    exact l_sp20 N d tx l s j M hj hT h8 (by omega) (gStr j) 0 N (by omega) (fun i hi => by rw [Nat.zero_add]) (gStr_bd j) (by omega)
  · rw [gEq_f (by omega) (by omega) (by omega) (by omega) (by omega), cond_false, gB01_0, gIf_t, show (nE tx l s - s == (gStr j).length) = false by simpa using h, Bool.false_and]
    rfl
/-- the number of the word at s; none: -1 -/
def wdI (tx : Nat → Nat) (l s : Nat) : Int := fB (fun j => isWB tx l s (gStr j)) 0 7
theorem s_spelling (N d j : Nat) (M : gM) (hj : j < 7) : gEv N (d + 1) 50 [.inl (j : Int)] M = some (M, some (.inr (.inr (1010 + j + 1)))) := by
  rw [q_X7_spelling]
  rcases (by omega : j = 0 ∨ j = 1 ∨ j = 2 ∨ j = 3 ∨ j = 4 ∨ j = 5 ∨ j = 6) with rfl | rfl | rfl | rfl | rfl | rfl | rfl <;> simp (disch := omega) only [gInb_t, gLt_t, gLt_f, gEq_t, gEq_f, gIx_nat, gIx_id, gIf, cond_true, cond_false, gCi_some, gCv_some, gCr_some, gB01_0, gB01_1, gBi_01, gU_same, gU_off, gW_id, Int.toNat_natCast, Int.toNat_add, Int.toNat_mul, Int.reduceToNat, Nat.add_zero, Int.add_zero]
theorem l_word (N d : Nat) (tx : Nat → Nat) (l s : Nat) (M : gM) (hN : 100 ≤ N) (hT : txtX M tx l) (hs : s ≤ l) (hK : tokX M tx l s) : ∀ (r k z : Nat), k + r = 7 → r < z → L_X7_wordHere_2 (gEv N (d + 8)) z (k : Int) M = some (M, some (.inl (fB (fun j => isWB tx l s (gStr j)) k r))) := by
  intro r
  induction r with
  | zero =>
    intro k z hk hz
    obtain ⟨z, rfl⟩ : ∃ y, z = y + 1 := ⟨z - 1, by omega⟩
    rw [q_X7_wordHere_2, gLt_f (by omega) (by omega) (by omega), cond_false]
    rfl
  | succ r ih =>
    intro k z hk hz
    obtain ⟨z, rfl⟩ : ∃ y, z = y + 1 := ⟨z - 1, by omega⟩
    rw [q_X7_wordHere_2, gLt_t (by omega) (by omega) (by omega), cond_true, s_spelling N (d + 7) k M (by omega), gCr_some, s_spell N d tx l s k M hN (by omega) hT hs hK, gCi_some, bI_eq0, cast_1 k, ih (k + 1) z (by omega) (by omega)]
    simp only [fB]
    cases isWB tx l s (gStr k) <;> rfl
theorem s_word (N d : Nat) (tx : Nat → Nat) (l s : Nat) (M : gM) (hN : 100 ≤ N) (hT : txtX M tx l) (hs : s ≤ l) (hK : tokX M tx l s) : gEv N (d + 9) 48 [.inr (.inr 2)] M = some (M, some (.inl (wdI tx l s))) :=
  (q_X7_wordHere N (d + 8) M).trans (l_word N d tx l s M hN hT hs hK 7 0 N (by omega) (by omega))
theorem mPl {w : Nat} (h1 : 92 ≤ w) (h2 : w < 99) : w = 92 ∨ w = 93 ∨ w = 94 ∨ w = 95 ∨ w = 96 ∨ w = 97 ∨ w = 98 := by omega
theorem l_iw22 (C : gCl) (tx : Nat → Nat) (l s w m : Nat) (W : List Nat) (M : gM) (hw : 92 ≤ w ∧ w < 99) (hT : txtM M tx l) (h12 : M 81 12 = (s : Int)) (hm : (gLay w).2.1 = m) (hW : m = W.length) (hl : s + m ≤ l) (hM : ∀ i, i < m → M w i = ((W.getD i 0 : Nat) : Int)) : ∀ (V : List Nat) (k z : Nat) (b : Bool), k + V.length = m → (∀ i, i < V.length → W.getD (k + i) 0 = V.getD i 0) → (∀ c, c ∈ V → c ≤ 255) → V.length < z → L_X10_isWord_22 C z w (bI b) (k : Int) M = some (M, some (.inl (bI (b && eqW tx (s + k) V)))) := by
  obtain ⟨t1, t2, t3⟩ := hT
  intro V
  induction V with
  | nil =>
    intro k z b hk _ _ hz
    obtain ⟨z, rfl⟩ : ∃ y, z = y + 1 := ⟨z - 1, by omega⟩
    simp only [List.length_nil, Nat.add_zero] at hk
    rw [q_X10_isWord_22 _ _ _ _ _ _ (mPl hw.1 hw.2), hm, gLt_f (by omega) (by omega) (by omega), cond_false, bI_B, gIf_t]
    simp only [eqW, Bool.and_true]
  | cons c V ih =>
    intro k z b hk hv hc hz
    obtain ⟨z, rfl⟩ : ∃ y, z = y + 1 := ⟨z - 1, by omega⟩
    simp only [List.length_cons] at hk hz
    obtain ⟨t4, t5⟩ := t3 (s + k) (by omega)
    have hg := hv 0 (by simp)
    simp only [Nat.add_zero, List.getD_cons_zero] at hg
    have hcb := hc c (by simp)
    have ih2 := fun b => ih (k + 1) z b (by omega) (fun i hi => by
      have := hv (i + 1) (by simp; omega)
      rw [show k + 1 + i = k + (i + 1) by omega, this]
      rfl) (fun x hx => hc x (by simp [hx])) (by omega)
    have iht := ih2 true
    have ihf := ih2 false
    rw [bI_t] at iht
    rw [bI_f] at ihf
    rw [q_X10_isWord_22 _ _ _ _ _ _ (mPl hw.1 hw.2), hm, gLt_t (by omega) (by omega) (by omega), cond_true, bI_eq0, bI_B, h12, gIx_e (x := (s : Int) + (k : Int)) (n := s + k) (by omega) (by omega), t4, gIx_e (x := (k : Int)) (n := k) rfl (by omega), hM k (by omega), hg, cast_1 k, iht, ihf, gInb_t (by omega) (by omega) (by omega), gIf_t, gInb_e (x := (k : Int)) (k := k) rfl (by omega) (by omega), gIf_t, gIf_t]
    simp only [eqW]
    cases b with
    | false => rfl
    | true =>
      rw [Bool.not_true, cond_false, Bool.true_and, Bool.true_and, Bool.false_and]
      by_cases h : tx (s + k) = c
      · rw [gEq_t (by omega), cond_true, h, show (c == c) = true by simp, Bool.true_and, show s + (k + 1) = s + k + 1 by omega]
      · rw [gEq_f (by omega) (by omega) (by omega) (by omega) (by omega), cond_false, show (tx (s + k) == c) = false by simpa using h, Bool.false_and]
/-- where the model has its words -/
def wOf (j : Nat) : Nat := match j with
  | 0 => 93
  | 1 => 94
  | 2 => 95
  | 3 => 96
  | 4 => 97
  | 5 => 92
  | _ => 98
theorem wOf_ok : ∀ j, j < 7 → 92 ≤ wOf j ∧ wOf j < 99 ∧ (gLay (wOf j)).2.1 = (gStr j).length ∧ ∀ i, i < (gStr j).length → (gWrd (wOf j)).getD i 0 = (((gStr j).getD i 0 : Nat) : Int) := by decide +kernel
theorem s_isWord (N d : Nat) (tx : Nat → Nat) (l s j : Nat) (M : gM) (hN : 100 ≤ N) (hj : j < 7) (hT : txtM M tx l) (hs : s ≤ l) (hK : tokM M tx l s) (hW : iWrd M) : gEv N (d + 1) 105 [.inr (.inr 82), .inr (.inr (wOf j + 1))] M = some (M, some (.inl (bI (isWB tx l s (gStr j))))) := by
  obtain ⟨h12, h13⟩ := hK
  obtain ⟨w1, w2, w3, w4⟩ := wOf_ok j hj
  have hj7 := gStr_len j
  have hE := nE_le (tx := tx) hs
  have hT1 := hT.1
  rw [q_X10_isWord _ _ _ _ (mPl w1 w2), w3, h12, h13]
  unfold isWB
  by_cases h : nE tx l s - s = (gStr j).length
  · rw [gEq_t (by omega), cond_true, h, show ((gStr j).length == (gStr j).length) = true by simp]
    exact l_iw22 (gEv N d) tx l s (wOf j) (gStr j).length (gStr j) M ⟨w1, w2⟩ hT h12 w3 rfl (by omega) (fun i hi => (hW _ _ w1 w2).trans (w4 i hi)) (gStr j) 0 N true (by omega) (fun i hi => by rw [Nat.zero_add]) (gStr_bd j) (by omega)
  · rw [gEq_f (by omega) (by omega) (by omega) (by omega) (by omega), cond_false, show (nE tx l s - s == (gStr j).length) = false by simpa using h]
    by_cases h2 : (gStr j).length = 0
    · exfalso
      have : ∀ j, j < 7 → (gStr j).length ≠ 0 := by decide
      exact this j hj h2
    · have : ∀ z, 1 ≤ z → L_X10_isWord_22 (gEv N d) z (wOf j) 0 0 M = some (M, some (.inl 0)) := fun z hz => by
        obtain ⟨z, rfl⟩ : ∃ y, z = y + 1 := ⟨z - 1, by omega⟩
        rw [q_X10_isWord_22 _ _ _ _ _ _ (mPl w1 w2), w3, gLt_t (by omega) (by omega) (by omega), cond_true, gEq_refl, cond_true, gB01_0, gIf_t]
      rw [this N (by omega), Bool.false_and]
      rfl
theorem s_kindHere (N d : Nat) (tx : Nat → Nat) (l s : Nat) (M : gM) (hN : 100 ≤ N) (hT : txtM M tx l) (hs : s ≤ l) (hK : tokM M tx l s) (hW : iWrd M) : gEv N (d + 2) 107 [.inr (.inr 82)] M = some (M, some (.inl (fB (fun j => isWB tx l s (gStr j)) 0 5))) := by
  have e0 : gEv N (d + 1) 105 [.inr (.inr 82), .inr (.inr 94)] M = _ := s_isWord N d tx l s 0 M hN (by omega) hT hs hK hW
  have e1 : gEv N (d + 1) 105 [.inr (.inr 82), .inr (.inr 95)] M = _ := s_isWord N d tx l s 1 M hN (by omega) hT hs hK hW
  have e2 : gEv N (d + 1) 105 [.inr (.inr 82), .inr (.inr 96)] M = _ := s_isWord N d tx l s 2 M hN (by omega) hT hs hK hW
  have e3 : gEv N (d + 1) 105 [.inr (.inr 82), .inr (.inr 97)] M = _ := s_isWord N d tx l s 3 M hN (by omega) hT hs hK hW
  have e4 : gEv N (d + 1) 105 [.inr (.inr 82), .inr (.inr 98)] M = _ := s_isWord N d tx l s 4 M hN (by omega) hT hs hK hW
  rw [q_X10_kindHere, e0, gCi_some, bI_eq0, e1, gCi_some, bI_eq0, e2, gCi_some, bI_eq0, e3, gCi_some, bI_eq0, e4, gCi_some, bI_eq0]
  simp only [fB]
  cases isWB tx l s (gStr 0) <;> cases isWB tx l s (gStr 1) <;> cases isWB tx l s (gStr 2) <;> cases isWB tx l s (gStr 3) <;> cases isWB tx l s (gStr 4) <;> rfl
theorem exT_all (tx : Nat → Nat) (l q : Nat) : ∀ (r i : Nat), r = l - i → ∀ j, i ≤ j → j < exT tx l q i r → srt (tx j) = q
  | 0, i, _, j, h1, h2 => by simp only [exT] at h2; omega
  | r + 1, i, hr, j, h1, h2 => by
    simp only [exT] at h2
    split at h2
    · rename_i hc
      by_cases hj : j = i
      · subst hj; exact hc.2
      · exact exT_all tx l q r (i + 1) (by omega) j (by omega) h2
    · omega
/-- the number of one or two digits at s -/
def vlO (tx : Nat → Nat) (l s : Nat) : Option Nat := if s < l ∧ srt (tx s) = 1 ∧ nE tx l s - s ≤ 2 then some (if nE tx l s - s = 2 then 10 * (tx s - 48) + (tx (s + 1) - 48) else tx s - 48) else none
theorem srt1 {c : Nat} (h : srt c = 1) : 48 ≤ c ∧ c ≤ 57 := by
  unfold srt at h
  by_cases h1 : 97 ≤ c ∧ c ≤ 122
  · rw [if_pos h1] at h; cases h
  · rw [if_neg h1] at h
    by_cases h2 : 48 ≤ c ∧ c ≤ 57
    · exact h2
    · rw [if_neg h2] at h; cases h
theorem nE_two {tx : Nat → Nat} {l s : Nat} (hs : s < l) (h1 : srt (tx s) = 1) (h2 : nE tx l s - s = 2) : s + 1 < l ∧ srt (tx (s + 1)) = 1 := by
  have hE := nE_le (tx := tx) (Nat.le_of_lt hs)
  have e : nE tx l s = exT tx l 1 (s + 1) (l - (s + 1)) := by
    unfold nE
    rw [if_pos hs, if_neg (by omega), h1]
  refine ⟨by omega, exT_all tx l 1 (l - (s + 1)) (s + 1) rfl (s + 1) (Nat.le_refl _) (by omega)⟩
theorem vlO_bd {tx : Nat → Nat} {l s v : Nat} (h : vlO tx l s = some v) : v ≤ 99 := by
  unfold vlO at h
  split at h
  · rename_i hc
    have h1 := srt1 hc.2.1
    simp only [Option.some.injEq] at h
    by_cases h2 : nE tx l s - s = 2
    · have h3 := srt1 (nE_two hc.1 hc.2.1 h2).2
      rw [if_pos h2] at h
      omega
    · rw [if_neg h2] at h
      omega
  · cases h
def vlI (tx : Nat → Nat) (l s : Nat) : Int := match vlO tx l s with
  | some v => (v : Int)
  | none => -1
theorem s_number (N d : Nat) (tx : Nat → Nat) (l s : Nat) (M : gM) (hN : 100 ≤ N) (hT : txtX M tx l) (hs : s ≤ l) (hK : tokX M tx l s) : gEv N (d + 1) 47 [.inr (.inr 2)] M = some (M, some (.inl (vlI tx l s))) := by
  obtain ⟨h8, h9, h10⟩ := hK
  obtain ⟨t1, t2, t3⟩ := hT
  have hE := nE_le (tx := tx) hs
  have hq := srt_lt (tx s)
  rw [q_X7_numberHere, h10, h9, h8]
  unfold vlI vlO
  by_cases c1 : s < l
  · have e10 : tSort tx l s = srt (tx s) := by unfold tSort; rw [if_pos c1]
    rw [e10]
    by_cases c2 : srt (tx s) = 1
    · have hd := srt1 c2
      rw [gEq_t (by omega), cond_true]
      have hE2 := hE.2.2 c1
      have st : ∀ (z k : Nat) (a : Int), 1 ≤ z → s ≤ k → k < nE tx l s → L_X7_numberHere_30 (gEv N d) z a (k : Int) M = L_X7_numberHere_30 (gEv N d) (z - 1) (a * 10 + ((tx k : Nat) : Int) - 48) ((k + 1 : Nat) : Int) M := fun z k a hz k1 k2 => by
        obtain ⟨z, rfl⟩ : ∃ y, z = y + 1 := ⟨z - 1, by omega⟩
        rw [q_X7_numberHere_30, h9, gLt_t (by omega) (by omega) (by omega), cond_true, gIx_e (x := (k : Int)) (n := k) rfl (by omega), (t3 k (by omega)).1, cast_1 k, gInb_t (by omega) (by omega) (by omega), gIf_t, Nat.add_sub_cancel]
      have en : ∀ (z : Nat) (a : Int), 1 ≤ z → L_X7_numberHere_30 (gEv N d) z a ((nE tx l s : Nat) : Int) M = some (M, some (.inl a)) := fun z a hz => by
        obtain ⟨z, rfl⟩ : ∃ y, z = y + 1 := ⟨z - 1, by omega⟩
        rw [q_X7_numberHere_30, h9, gLt_f (by omega) (by omega) (by omega), cond_false]
      by_cases c3 : nE tx l s - s ≤ 2
      · rw [if_pos ⟨c1, c2, c3⟩, gLt_f (by omega) (by omega) (by omega), cond_false, st N s 0 (by omega) (by omega) (by omega)]
        simp only
        by_cases c4 : nE tx l s - s = 2
        · obtain ⟨w1, w2⟩ := nE_two c1 c2 c4
          have hd2 := srt1 w2
          rw [if_pos c4, st (N - 1) (s + 1) _ (by omega) (by omega) (by omega), show s + 1 + 1 = nE tx l s by omega, en _ _ (by omega)]
          congr 4
          omega
        · rw [if_neg c4, show s + 1 = nE tx l s by omega, en _ _ (by omega)]
          congr 4
          omega
      · rw [if_neg (fun w => c3 w.2.2), gLt_t (by omega) (by omega) (by omega), cond_true]
    · rw [if_neg (fun w => c2 w.2.1), gEq_f (by omega) (by omega) (by omega) (by omega) (by omega), cond_false]
  · have e10 : tSort tx l s = 3 := by unfold tSort; rw [if_neg c1]
    rw [e10, if_neg (fun w => c1 w.1), gEq_f (by omega) (by omega) (by omega) (by omega) (by omega), cond_false]
theorem s_mnumber (N d : Nat) (tx : Nat → Nat) (l s k : Nat) (lo hi : Int) (M : gM) (hN : 2000 ≤ N) (hT : txtM M tx l) (hs : s ≤ l) (hK : tokM M tx l s) (hk : k < 3) (hlo : rng lo) (hhi : rng hi) : (∀ v, vlO tx l s = some v → lo ≤ (v : Int) → (v : Int) ≤ hi → ∃ M', gEv N (d + 4) 106 [.inr (.inr 82), .inl (k : Int), .inl lo, .inl hi] M = some (M', some (.inl 1)) ∧ M' 91 k = (v : Int) ∧ tokM M' tx l (nS tx l (nE tx l s)) ∧ ∀ p j, ¬ ((p = 91 ∧ j = k) ∨ (p = 81 ∧ 12 ≤ j ∧ j ≤ 13)) → M' p j = M p j) ∧ ((∀ v, vlO tx l s = some v → ¬ (lo ≤ (v : Int) ∧ (v : Int) ≤ hi)) → gEv N (d + 4) 106 [.inr (.inr 82), .inl (k : Int), .inl lo, .inl hi] M = some (M, some (.inl 0))) := by
  obtain ⟨h12, h13⟩ := hK
  obtain ⟨t1, t2, t3⟩ := id hT
  have hE := nE_le (tx := tx) hs
  have e := q_X10_number N (d + 3) (k : Int) lo hi M
  rw [h12, t2] at e
  by_cases c1 : s < l
  · obtain ⟨t4, t5⟩ := t3 s c1
    rw [gEq_f (by omega) (by omega) (by omega) (by omega) (by omega), cond_false, gIx_e (x := (s : Int)) (n := s) rfl (by omega), t4, s_isDigit N (d + 1) (tx s) M t5, gCi_some, bI_eq0, h12, h13, gIx_e (x := (s : Int)) (n := s) rfl (by omega), t4, gInb_t (by omega) (by omega) (by omega), gIf_t, gIf_t] at e
    have hE2 := hE.2.2 c1
    by_cases c2 : srt (tx s) = 1
    · have hd := srt1 c2
      rw [decide_eq_true c2, Bool.not_true, cond_false] at e
      by_cases c3 : nE tx l s - s ≤ 2
      · rw [gLt_f (by omega) (by omega) (by omega), cond_false] at e
        -- the value v, and what follows
        have key : ∀ v : Nat, v ≤ 99 → vlO tx l s = some v → gEv N (d + 3 + 1) 106 [.inr (.inr 82), .inl (k : Int), .inl lo, .inl hi] M = gCi (gEv N (d + 3) 99 [.inr (.inl (gW (v : Int))), .inr (.inl (gW lo)), .inr (.inl (gW hi))] M) (fun M3 r4 => cond (gEq r4 0) (gIf (gB01 r4) (some (M3, some (.inl r4)))) (gIf (gInb (k : Int) 3) (gCv (gEv N (d + 3) 104 [.inr (.inr 82)] (gU M3 91 (gIx (k : Int)) (v : Int))) (fun M5 => gIf (gB01 r4) (some (M5, some (.inl r4))))))) → (lo ≤ (v : Int) ∧ (v : Int) ≤ hi → ∃ M', gEv N (d + 4) 106 [.inr (.inr 82), .inl (k : Int), .inl lo, .inl hi] M = some (M', some (.inl 1)) ∧ M' 91 k = (v : Int) ∧ tokM M' tx l (nS tx l (nE tx l s)) ∧ ∀ p j, ¬ ((p = 91 ∧ j = k) ∨ (p = 81 ∧ 12 ≤ j ∧ j ≤ 13)) → M' p j = M p j) ∧ (¬ (lo ≤ (v : Int) ∧ (v : Int) ≤ hi) → gEv N (d + 4) 106 [.inr (.inr 82), .inl (k : Int), .inl lo, .inl hi] M = some (M, some (.inl 0))) := by
          intro v hv _ e2
          rw [gW_id hlo.1 hlo.2, gW_id hhi.1 hhi.2, s_min N (d + 2) (v : Int) lo hi lo hi M (rng_c (by omega) (by omega)) hlo hhi rfl rfl, gCi_some, bI_eq0, bI_B, gIf_t, gIx_e (x := (k : Int)) (n := k) rfl (by omega), gInb_t (by omega) (by omega) (by omega), gIf_t] at e2
          refine ⟨fun hr => ?_, fun hr => ?_⟩
          · rw [decide_eq_true hr, Bool.not_true, cond_false] at e2
            obtain ⟨M', g1, g2, g3⟩ := s_nextTok N d tx l (nE tx l s) (gU M 91 k (v : Int)) hN ⟨t1, (gU_off _ _ (by omega)).trans t2, fun j hj => ⟨(gU_off _ _ (by omega)).trans (t3 j hj).1, (t3 j hj).2⟩⟩ (by omega) ((gU_off _ _ (by omega)).trans h13)
            rw [g1, gCv_some, gIf_t] at e2
            exact ⟨M', e2, (g3 _ _ (by omega)).trans (gU_same _ _ _ _), g2, fun p j hp => (g3 p j (by omega)).trans (gU_off _ _ (by omega))⟩
          · rw [decide_eq_false hr, Bool.not_false, cond_true] at e2
            exact e2
        by_cases c4 : nE tx l s - s = 2
        · obtain ⟨w1, w2⟩ := nE_two c1 c2 c4
          have hd2 := srt1 w2
          have hv : vlO tx l s = some (10 * (tx s - 48) + (tx (s + 1) - 48)) := by unfold vlO; rw [if_pos ⟨c1, c2, c3⟩, if_pos c4]
          rw [gEq_t (by omega), cond_true, gIx_e (x := (s : Int) + 1) (n := s + 1) (by omega) (by omega), (t3 (s + 1) w1).1, gInb_t (by omega) (by omega) (by omega), gIf_t, show 10 * (((tx s : Nat) : Int) - 48) + ((tx (s + 1) : Nat) : Int) - 48 = ((10 * (tx s - 48) + (tx (s + 1) - 48) : Nat) : Int) by omega] at e
          obtain ⟨k1, k2⟩ := key _ (by omega) hv e
          refine ⟨fun v h1 h2 h3 => ?_, fun h => k2 (h _ hv)⟩
          rw [hv] at h1
          cases h1
          exact k1 ⟨h2, h3⟩
        · have hv : vlO tx l s = some (tx s - 48) := by unfold vlO; rw [if_pos ⟨c1, c2, c3⟩, if_neg c4]
          rw [gEq_f (by omega) (by omega) (by omega) (by omega) (by omega), cond_false, show ((tx s : Nat) : Int) - 48 = ((tx s - 48 : Nat) : Int) by omega] at e
          obtain ⟨k1, k2⟩ := key _ (by omega) hv e
          refine ⟨fun v h1 h2 h3 => ?_, fun h => k2 (h _ hv)⟩
          rw [hv] at h1
          cases h1
          exact k1 ⟨h2, h3⟩
      · have hv : vlO tx l s = none := by unfold vlO; rw [if_neg (fun w => c3 w.2.2)]
        rw [gLt_t (by omega) (by omega) (by omega), cond_true, gB01_0, gIf_t] at e
        exact ⟨fun v h => (by rw [hv] at h; cases h), fun _ => e⟩
    · have hv : vlO tx l s = none := by unfold vlO; rw [if_neg (fun w => c2 w.2.1)]
      rw [decide_eq_false c2, Bool.not_false, cond_true, gB01_0, gIf_t] at e
      exact ⟨fun v h => (by rw [hv] at h; cases h), fun _ => e⟩
  · have hv : vlO tx l s = none := by unfold vlO; rw [if_neg (fun w => c1 w.1)]
    rw [gEq_t (by omega), cond_true, gB01_0, gIf_t] at e
    exact ⟨fun v h => (by rw [hv] at h; cases h), fun _ => e⟩
