-- 91: the law's conditions (by program)
def lwP (x : Int) (o : Option (Nat × gL × List gV × gM)) : Prop := ∃ M' : gM, o = some (1136, gLl x, [], M') ∧ kInv M'
theorem lw_c {x : Int} {b : Bool} {X Y : Option (Nat × gL × List gV × gM)} (h1 : lwP x X) (h2 : lwP x Y) : lwP x (cond b X Y) := by
  cases b
  · exact h2
  · exact h1
theorem lc_0 (N d kc km L : Nat) (x : Int) (M : gM) (hL : M 1001 0 = (L : Int))  (h : kPair N d kc km [] M) : lwP x (gCi ((gEv N d) kc [.inr (.inr (1))] M) (fun M1 r2 => gCi ((gEv N d) km [.inr (.inr (82))] M1) (fun M3 r4 => cond (gEq r2 r4) (some (1136, gLl x, [], M3)) (gIf (gB01 0) (none))))) := by
  obtain ⟨M1, r, M2, h1, h2, h3, h4, h5⟩ := h
  have e1 : (M 1001 0).toNat = L := by rw [hL]; exact Int.toNat_natCast L
  have e2 : (M1 1001 0).toNat = L := by rw [h4]; exact e1
  rw [h1, gCi_some, h2, gCi_some, gEq_refl, cond_true]
  exact ⟨M2, rfl, h5⟩
theorem lc_1 (N d kc km L : Nat) (x : Int) (M : gM) (hL : M 1001 0 = (L : Int)) (hb1 : gInb (x + 1) L = true) (h : kPair N d kc km [.inl (M 1000 (gIx (x + 1)))] M) : lwP x (gIf (gInb (x + 1) (M 1001 0).toNat) (gCi ((gEv N d) kc [.inr (.inr (1)), .inl (M 1000 (gIx (x + 1)))] M) (fun M1 r2 => gIf (gInb (x + 1) (M1 1001 0).toNat) (gCi ((gEv N d) km [.inr (.inr (82)), .inl (M1 1000 (gIx (x + 1)))] M1) (fun M3 r4 => cond (gEq r2 r4) (some (1136, gLl x, [], M3)) (gIf (gB01 0) (none))))))) := by
  obtain ⟨M1, r, M2, h1, h2, h3, h4, h5⟩ := h
  have e1 : (M 1001 0).toNat = L := by rw [hL]; exact Int.toNat_natCast L
  have e2 : (M1 1001 0).toNat = L := by rw [h4]; exact e1
  rw [e1, hb1, gIf_t, h1, gCi_some, e2, hb1, gIf_t, h3 (gIx (x + 1)), h2, gCi_some, gEq_refl, cond_true]
  exact ⟨M2, rfl, h5⟩
theorem lc_2 (N d kc km L : Nat) (x : Int) (M : gM) (hL : M 1001 0 = (L : Int)) (hb1 : gInb (x + 1) L = true) (hb2 : gInb (x + 2) L = true) (h : kPair N d kc km [.inl (M 1000 (gIx (x + 1))), .inl (M 1000 (gIx (x + 2)))] M) : lwP x (gIf (gInb (x + 1) (M 1001 0).toNat) (gIf (gInb (x + 2) (M 1001 0).toNat) (gCi ((gEv N d) kc [.inr (.inr (1)), .inl (M 1000 (gIx (x + 1))), .inl (M 1000 (gIx (x + 2)))] M) (fun M1 r2 => gIf (gInb (x + 1) (M1 1001 0).toNat) (gIf (gInb (x + 2) (M1 1001 0).toNat) (gCi ((gEv N d) km [.inr (.inr (82)), .inl (M1 1000 (gIx (x + 1))), .inl (M1 1000 (gIx (x + 2)))] M1) (fun M3 r4 => cond (gEq r2 r4) (some (1136, gLl x, [], M3)) (gIf (gB01 0) (none))))))))) := by
  obtain ⟨M1, r, M2, h1, h2, h3, h4, h5⟩ := h
  have e1 : (M 1001 0).toNat = L := by rw [hL]; exact Int.toNat_natCast L
  have e2 : (M1 1001 0).toNat = L := by rw [h4]; exact e1
  rw [e1, hb1, gIf_t, hb2, gIf_t, h1, gCi_some, e2, hb1, gIf_t, hb2, gIf_t, h3 (gIx (x + 1)), h3 (gIx (x + 2)), h2, gCi_some, gEq_refl, cond_true]
  exact ⟨M2, rfl, h5⟩
theorem lc_3 (N d kc km L : Nat) (x : Int) (M : gM) (hL : M 1001 0 = (L : Int)) (hb1 : gInb (x + 1) L = true) (hb2 : gInb (x + 2) L = true) (hb3 : gInb (x + 3) L = true) (h : kPair N d kc km [.inl (M 1000 (gIx (x + 1))), .inl (M 1000 (gIx (x + 2))), .inl (M 1000 (gIx (x + 3)))] M) : lwP x (gIf (gInb (x + 1) (M 1001 0).toNat) (gIf (gInb (x + 2) (M 1001 0).toNat) (gIf (gInb (x + 3) (M 1001 0).toNat) (gCi ((gEv N d) kc [.inr (.inr (1)), .inl (M 1000 (gIx (x + 1))), .inl (M 1000 (gIx (x + 2))), .inl (M 1000 (gIx (x + 3)))] M) (fun M1 r2 => gIf (gInb (x + 1) (M1 1001 0).toNat) (gIf (gInb (x + 2) (M1 1001 0).toNat) (gIf (gInb (x + 3) (M1 1001 0).toNat) (gCi ((gEv N d) km [.inr (.inr (82)), .inl (M1 1000 (gIx (x + 1))), .inl (M1 1000 (gIx (x + 2))), .inl (M1 1000 (gIx (x + 3)))] M1) (fun M3 r4 => cond (gEq r2 r4) (some (1136, gLl x, [], M3)) (gIf (gB01 0) (none))))))))))) := by
  obtain ⟨M1, r, M2, h1, h2, h3, h4, h5⟩ := h
  have e1 : (M 1001 0).toNat = L := by rw [hL]; exact Int.toNat_natCast L
  have e2 : (M1 1001 0).toNat = L := by rw [h4]; exact e1
  rw [e1, hb1, gIf_t, hb2, gIf_t, hb3, gIf_t, h1, gCi_some, e2, hb1, gIf_t, hb2, gIf_t, hb3, gIf_t, h3 (gIx (x + 1)), h3 (gIx (x + 2)), h3 (gIx (x + 3)), h2, gCi_some, gEq_refl, cond_true]
  exact ⟨M2, rfl, h5⟩
theorem lc_4 (N d kc km L : Nat) (x : Int) (M : gM) (hL : M 1001 0 = (L : Int)) (hb1 : gInb (x + 1) L = true) (hb2 : gInb (x + 2) L = true) (hb3 : gInb (x + 3) L = true) (hb4 : gInb (x + 4) L = true) (h : kPair N d kc km [.inl (M 1000 (gIx (x + 1))), .inl (M 1000 (gIx (x + 2))), .inl (M 1000 (gIx (x + 3))), .inl (M 1000 (gIx (x + 4)))] M) : lwP x (gIf (gInb (x + 1) (M 1001 0).toNat) (gIf (gInb (x + 2) (M 1001 0).toNat) (gIf (gInb (x + 3) (M 1001 0).toNat) (gIf (gInb (x + 4) (M 1001 0).toNat) (gCi ((gEv N d) kc [.inr (.inr (1)), .inl (M 1000 (gIx (x + 1))), .inl (M 1000 (gIx (x + 2))), .inl (M 1000 (gIx (x + 3))), .inl (M 1000 (gIx (x + 4)))] M) (fun M1 r2 => gIf (gInb (x + 1) (M1 1001 0).toNat) (gIf (gInb (x + 2) (M1 1001 0).toNat) (gIf (gInb (x + 3) (M1 1001 0).toNat) (gIf (gInb (x + 4) (M1 1001 0).toNat) (gCi ((gEv N d) km [.inr (.inr (82)), .inl (M1 1000 (gIx (x + 1))), .inl (M1 1000 (gIx (x + 2))), .inl (M1 1000 (gIx (x + 3))), .inl (M1 1000 (gIx (x + 4)))] M1) (fun M3 r4 => cond (gEq r2 r4) (some (1136, gLl x, [], M3)) (gIf (gB01 0) (none))))))))))))) := by
  obtain ⟨M1, r, M2, h1, h2, h3, h4, h5⟩ := h
  have e1 : (M 1001 0).toNat = L := by rw [hL]; exact Int.toNat_natCast L
  have e2 : (M1 1001 0).toNat = L := by rw [h4]; exact e1
  rw [e1, hb1, gIf_t, hb2, gIf_t, hb3, gIf_t, hb4, gIf_t, h1, gCi_some, e2, hb1, gIf_t, hb2, gIf_t, hb3, gIf_t, hb4, gIf_t, h3 (gIx (x + 1)), h3 (gIx (x + 2)), h3 (gIx (x + 3)), h3 (gIx (x + 4)), h2, gCi_some, gEq_refl, cond_true]
  exact ⟨M2, rfl, h5⟩
theorem lc_5 (N d kc km L : Nat) (x : Int) (M : gM) (hL : M 1001 0 = (L : Int)) (hb1 : gInb (x + 1) L = true) (hb2 : gInb (x + 2) L = true) (hb3 : gInb (x + 3) L = true) (hb4 : gInb (x + 4) L = true) (hb5 : gInb (x + 5) L = true) (h : kPair N d kc km [.inl (M 1000 (gIx (x + 1))), .inl (M 1000 (gIx (x + 2))), .inl (M 1000 (gIx (x + 3))), .inl (M 1000 (gIx (x + 4))), .inl (M 1000 (gIx (x + 5)))] M) : lwP x (gIf (gInb (x + 1) (M 1001 0).toNat) (gIf (gInb (x + 2) (M 1001 0).toNat) (gIf (gInb (x + 3) (M 1001 0).toNat) (gIf (gInb (x + 4) (M 1001 0).toNat) (gIf (gInb (x + 5) (M 1001 0).toNat) (gCi ((gEv N d) kc [.inr (.inr (1)), .inl (M 1000 (gIx (x + 1))), .inl (M 1000 (gIx (x + 2))), .inl (M 1000 (gIx (x + 3))), .inl (M 1000 (gIx (x + 4))), .inl (M 1000 (gIx (x + 5)))] M) (fun M1 r2 => gIf (gInb (x + 1) (M1 1001 0).toNat) (gIf (gInb (x + 2) (M1 1001 0).toNat) (gIf (gInb (x + 3) (M1 1001 0).toNat) (gIf (gInb (x + 4) (M1 1001 0).toNat) (gIf (gInb (x + 5) (M1 1001 0).toNat) (gCi ((gEv N d) km [.inr (.inr (82)), .inl (M1 1000 (gIx (x + 1))), .inl (M1 1000 (gIx (x + 2))), .inl (M1 1000 (gIx (x + 3))), .inl (M1 1000 (gIx (x + 4))), .inl (M1 1000 (gIx (x + 5)))] M1) (fun M3 r4 => cond (gEq r2 r4) (some (1136, gLl x, [], M3)) (gIf (gB01 0) (none))))))))))))))) := by
  obtain ⟨M1, r, M2, h1, h2, h3, h4, h5⟩ := h
  have e1 : (M 1001 0).toNat = L := by rw [hL]; exact Int.toNat_natCast L
  have e2 : (M1 1001 0).toNat = L := by rw [h4]; exact e1
  rw [e1, hb1, gIf_t, hb2, gIf_t, hb3, gIf_t, hb4, gIf_t, hb5, gIf_t, h1, gCi_some, e2, hb1, gIf_t, hb2, gIf_t, hb3, gIf_t, hb4, gIf_t, hb5, gIf_t, h3 (gIx (x + 1)), h3 (gIx (x + 2)), h3 (gIx (x + 3)), h3 (gIx (x + 4)), h3 (gIx (x + 5)), h2, gCi_some, gEq_refl, cond_true]
  exact ⟨M2, rfl, h5⟩
set_option maxRecDepth 100000 in
set_option maxHeartbeats 8000000 in
theorem lw_call (N L i : Nat) (M : gM) (hN : 1000000000 ≤ N) (hL' : L ≤ 3072) (hI : kInv M) (hL : M 1001 0 = (L : Int)) (hi : i + 6 ≤ L) : lwP (i : Int) (gLaw N 30 18 (i : Int) M) := by
  have hz : ∀ j, rng (M 1000 j) := by
    obtain ⟨n, K, t, F, G, c, A, B, c', A', B', l, s, h⟩ := id hI
    exact h.2.2.2.2.2.2.2.2.2.2.2
  have b1 : gInb ((i : Int) + 1) L = true := gInb_t (by omega) (by omega) (by omega)
  have b2 : gInb ((i : Int) + 2) L = true := gInb_t (by omega) (by omega) (by omega)
  have b3 : gInb ((i : Int) + 3) L = true := gInb_t (by omega) (by omega) (by omega)
  have b4 : gInb ((i : Int) + 4) L = true := gInb_t (by omega) (by omega) (by omega)
  have b5 : gInb ((i : Int) + 5) L = true := gInb_t (by omega) (by omega) (by omega)
  have et : (M 1001 0).toNat = L := by rw [hL]; exact Int.toNat_natCast L
  rw [q_law_18, gLt_f (x := M 1001 0 - 6) (y := (i : Int)) (by omega) (by omega) (by omega), cond_false, gInb_t (x := (i : Int)) (n := (M 1001 0).toNat) (by omega) (by omega) (by omega), gIf_t]
  refine lw_c (lc_1 N 30 53 100 L (i : Int) M hL b1 (p_write N 10 _ M (by omega) hI (hz _))) ?_
  refine lw_c (lc_0 N 30 54 101 L (i : Int) M hL  (p_erase N 10  M hI)) ?_
  refine lw_c (lc_0 N 30 55 113 L (i : Int) M hL  (p_fault N 10  M (by omega) hI)) ?_
  refine lw_c (lc_0 N 30 56 115 L (i : Int) M hL  (p_house N 10  M (by omega) hI)) ?_
  refine lw_c (lc_2 N 30 57 127 L (i : Int) M hL b1 b2 (p_person N 10 _ _ M (by omega) hI (hz _) (hz _))) ?_
  refine lw_c (lc_2 N 30 58 128 L (i : Int) M hL b1 b2 (p_grief N 10 _ _ M (by omega) hI (hz _) (hz _))) ?_
  refine lw_c (lc_2 N 30 59 129 L (i : Int) M hL b1 b2 (p_as N 10 _ _ M (by omega) hI (hz _) (hz _))) ?_
  refine lw_c (lc_2 N 30 60 131 L (i : Int) M hL b1 b2 (p_pair N 10 _ _ M (by omega) hI (hz _) (hz _))) ?_
  refine lw_c (lc_0 N 30 61 132 L (i : Int) M hL  (p_unpair N 10  M hI)) ?_
  refine lw_c (lc_1 N 30 62 134 L (i : Int) M hL b1 (p_lent N 10 _ M (by omega) hI (hz _))) ?_
  refine lw_c (lc_2 N 30 63 135 L (i : Int) M hL b1 b2 (p_grieve N 10 _ _ M (by omega) hI (hz _) (hz _))) ?_
  refine lw_c (lc_1 N 30 64 136 L (i : Int) M hL b1 (p_comfort N 10 _ M (by omega) hI (hz _))) ?_
  refine lw_c (lc_0 N 30 65 137 L (i : Int) M hL  (p_undo N 10  M (by omega) hI)) ?_
  refine lw_c (lc_1 N 30 66 138 L (i : Int) M hL b1 (p_keep N 10 _ M (by omega) hI (hz _))) ?_
  refine lw_c (lc_1 N 30 67 139 L (i : Int) M hL b1 (p_back N 10 _ M (by omega) hI (hz _))) ?_
  refine lw_c (lc_3 N 30 68 141 L (i : Int) M hL b1 b2 b3 (p_behind N 10 _ _ _ M (by omega) hI (hz _) (hz _) (hz _))) ?_
  refine lw_c (lc_2 N 30 69 142 L (i : Int) M hL b1 b2 (p_enters N 10 _ _ M (by omega) hI (hz _) (hz _))) ?_
  refine lw_c (lc_2 N 30 70 143 L (i : Int) M hL b1 b2 (p_ahead N 10 _ _ M (by omega) hI (hz _) (hz _))) ?_
  refine lw_c (lc_0 N 30 71 144 L (i : Int) M hL  (p_wrong N 10  M (by omega) hI)) ?_
  refine lw_c (lc_1 N 30 72 149 L (i : Int) M hL b1 (p_ranked N 10 _ M (by omega) hI (hz _))) ?_
  refine lw_c (lc_0 N 30 73 151 L (i : Int) M hL  (p_lines N 10  M (by omega) hI)) ?_
  refine lw_c (lc_0 N 30 74 152 L (i : Int) M hL  (p_next N 10  M (by omega) hI)) ?_
  refine lw_c (lc_2 N 30 75 154 L (i : Int) M hL b1 b2 (p_rooms N 10 _ _ M (by omega) hI (hz _) (hz _))) ?_
  refine lw_c (lc_4 N 30 76 155 L (i : Int) M hL b1 b2 b3 b4 (p_misread N 10 _ _ _ _ M (by omega) hI (hz _) (hz _) (hz _) (hz _))) ?_
  refine lw_c (lc_3 N 30 77 156 L (i : Int) M hL b1 b2 b3 (p_seen N 10 _ _ _ M (by omega) hI (hz _) (hz _) (hz _))) ?_
  refine lw_c (lc_0 N 30 78 157 L (i : Int) M hL  (p_forget N 10  M hI)) ?_
  refine lw_c (lc_2 N 30 79 159 L (i : Int) M hL b1 b2 (p_kinds N 10 _ _ M (by omega) hI (hz _) (hz _))) ?_
  refine lw_c (lc_2 N 30 80 161 L (i : Int) M hL b1 b2 (p_drawer N 10 _ _ M (by omega) hI (hz _) (hz _))) ?_
  refine lw_c (lc_4 N 30 81 163 L (i : Int) M hL b1 b2 b3 b4 (p_put N 10 _ _ _ _ M (by omega) hI (hz _) (hz _) (hz _) (hz _))) ?_
  refine lw_c (lc_3 N 30 82 164 L (i : Int) M hL b1 b2 b3 (p_take N 10 _ _ _ M (by omega) hI (hz _) (hz _) (hz _))) ?_
  refine lw_c (lc_1 N 30 83 166 L (i : Int) M hL b1 (p_tidy N 10 _ M (by omega) hI (hz _))) ?_
  refine lw_c (lc_5 N 30 84 168 L (i : Int) M hL b1 b2 b3 b4 b5 (p_copy N 10 _ _ _ _ _ M (by omega) hI (hz _) (hz _) (hz _) (hz _) (hz _))) ?_
  refine lw_c (lc_1 N 30 85 169 L (i : Int) M hL b1 (p_drop N 10 _ M (by omega) hI (hz _))) ?_
  refine lw_c (lc_1 N 30 86 174 L (i : Int) M hL b1 (p_count N 10 _ M (by omega) hI (hz _))) ?_
  exact ⟨M, rfl, hI⟩
theorem gi_0 (L : Nat) (xs : Nat → Int32) (p i : Nat) (h1 : p < 88) (h2 : p = 1 → i ≠ 10) : gMi0 L xs p i = 0 := by
  unfold gMi0 gInit0
  rw [show Nat.blt p 107 = true from Nat.blt_eq.mpr (by omega), cond_true]
  by_cases hp : p = 1
  · rw [show Nat.beq p 1 = true from by rw [hp]; rfl, cond_true]
    cases hb : Nat.beq i 10 with
    | false => rfl
    | true => exact absurd (Nat.eq_of_beq_eq_true hb) (h2 hp)
  · cases hb : Nat.beq p 1 with
    | false => rw [cond_false, show Nat.blt p 88 = true from Nat.blt_eq.mpr h1, cond_true]
    | true => exact absurd (Nat.eq_of_beq_eq_true hb) hp
theorem gi_w (L : Nat) (xs : Nat → Int32) (p i : Nat) (h1 : 88 ≤ p) (h2 : p < 99) : gMi0 L xs p i = (gWrd p).getD i 0 := by
  unfold gMi0 gInit0
  rw [show Nat.blt p 107 = true from Nat.blt_eq.mpr (by omega), cond_true]
  cases hb : Nat.beq p 1 with
  | true => exact absurd (Nat.eq_of_beq_eq_true hb) (by omega)
  | false =>
    rw [cond_false]
    cases hc : Nat.blt p 88 with
    | true => exact absurd (Nat.blt_eq.mp hc) (by omega)
    | false => rw [cond_false, show Nat.blt p 99 = true from Nat.blt_eq.mpr (by omega), cond_true]
theorem gi_89 (L : Nat) (xs : Nat → Int32) (p i : Nat) (h : p = 89 ∨ p = 90) : gMi0 L xs p i = 0 := by
  rw [gi_w L xs p i (by omega) (by omega)]
  rcases h with rfl | rfl <;> rfl
theorem gi_s (L : Nat) (xs : Nat → Int32) (i : Nat) : rng (gMi0 L xs 1000 i) := by
  have e : gMi0 L xs 1000 i = (xs i).toInt := rfl
  rw [e]
  exact ⟨Int32.le_toInt (xs i), Int32.toInt_lt (xs i)⟩
theorem lw_start (L : Nat) (xs : Nat → Int32) : kInv (gMi0 L xs) := by
  have z : ∀ p i, p < 88 → p ≠ 1 → gMi0 L xs p i = 0 := fun p i h1 h2 => gi_0 L xs p i h1 (fun h => absurd h h2)
  have z1 : gMi0 L xs 1 1 = 0 := gi_0 L xs 1 1 (by omega) (fun _ => by omega)
  refine ⟨0, fun _ => 0, 0, fun _ => [], fun _ => [], 0, fun _ => 0, fun _ => 0, 0, fun _ => 0, fun _ => 0, 0, 0, ⟨by omega, z _ _ (by omega) (by omega), z _ _ (by omega) (by omega), z _ _ (by omega) (by omega), fun p hp => absurd hp (Nat.not_lt_zero p)⟩, ⟨⟨by omega, by omega, fun p hp => absurd hp (Nat.not_lt_zero p)⟩, ⟨z _ _ (by omega) (by omega), fun p hp => absurd hp (Nat.not_lt_zero p)⟩, ⟨z _ _ (by omega) (by omega), fun p hp => absurd hp (Nat.not_lt_zero p)⟩⟩, ⟨⟨by omega, by omega, fun p hp => absurd hp (Nat.not_lt_zero p)⟩, ⟨z _ _ (by omega) (by omega), fun p hp => absurd hp (Nat.not_lt_zero p)⟩, ⟨z _ _ (by omega) (by omega), fun p hp => absurd hp (Nat.not_lt_zero p)⟩⟩, ⟨by omega, z _ _ (by omega) (by omega), z _ _ (by omega) (by omega), fun p hp => absurd hp (Nat.not_lt_zero p)⟩, ⟨by omega, z _ _ (by omega) (by omega), z _ _ (by omega) (by omega), fun p hp => absurd hp (Nat.not_lt_zero p)⟩, ⟨by omega, z1, z _ _ (by omega) (by omega), fun p hp => absurd hp (Nat.not_lt_zero p)⟩, ⟨0, 0, fun _ => 0, fun _ _ => [], by omega, by omega, z _ _ (by omega) (by omega), z _ _ (by omega) (by omega), z _ _ (by omega) (by omega), fun p hp => absurd hp (Nat.not_lt_zero p)⟩, fun k hk => ?_, ⟨by omega, z _ _ (by omega) (by omega), z _ _ (by omega) (by omega), fun p hp => absurd hp (Nat.not_lt_zero p)⟩, fun d hd => ?_, fun w i h1 h2 => gi_w L xs w i (by omega) (by omega), fun i => gi_s L xs i⟩
  · have h53 := z 53 k (by omega) (by omega)
    have h83 := z 83 k (by omega) (by omega)
    exact ⟨Or.inl h53, h83.trans h53.symm, fun w => by omega⟩
  · have h0 := z (69 + 3 * d) 0 (by omega) (by omega)
    have h88 : gMi0 L xs 88 d = -1 := by
      rw [gi_w L xs 88 d (by omega) (by omega)]
      rcases (show d = 0 ∨ d = 1 ∨ d = 2 ∨ d = 3 by omega) with rfl | rfl | rfl | rfl <;> rfl
    refine ⟨Or.inl ⟨h0, h88⟩, fun i hi => ?_⟩
    rw [z (70 + 3 * d) i (by omega) (by omega), z (71 + 3 * d) i (by omega) (by omega), gi_89 L xs 89 _ (Or.inl rfl), gi_89 L xs 90 _ (Or.inr rfl)]
    exact ⟨by omega, by omega, by simp, ⟨by omega, by omega⟩, rfl, fun w => by omega⟩
theorem lw_owed (N : Nat) (hN : 1000000000 ≤ N) : gOweLaw N 30 kInv := by
  refine ⟨fun L xs _ => lw_start L xs, fun L i M h1 h2 h3 h4 => lw_call N L i M hN h1 h2 h3 h4, fun L i M h1 h2 h3 h4 => ?_, fun i M h1 => by rw [show ((i + 6 : Nat) : Int) = (i : Int) + 6 by omega]; exact q_law_1136 N 30 (i : Int) M⟩
  rw [q_law_18, gLt_t (x := M 1001 0 - 6) (y := (i : Int)) (by omega) (by omega) (by omega), cond_true]
