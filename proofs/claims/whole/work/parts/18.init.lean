-- 18: the store behind the constructors
def gWrd (p : Nat) : List Int := match p with
  | 88 => [-1, -1, -1, -1]
  | 92 => [104, 111, 117, 115, 101]
  | 93 => [103, 117, 101, 115, 116]
  | 94 => [119, 105, 100, 111, 119]
  | 95 => [103, 101, 110, 101, 114, 97, 108]
  | 96 => [99, 104, 105, 108, 100]
  | 97 => [115, 97, 105, 110, 116]
  | 98 => [112, 97, 105, 114]
  | _ => []
/-- what the store holds at the start (by choice of gInit0: 3 for the sort of the end, the rows of words, the sizes) -/
def gInit0 (p i : Nat) : Int := cond (Nat.beq p 1) (cond (Nat.beq i 10) 3 0) (cond (Nat.blt p 88) 0 (cond (Nat.blt p 99) ((gWrd p).getD i 0) 0))
def gMi0 (L : Nat) (xs : Nat → Int32) : gM := fun p i => cond (Nat.blt p 107) (gInit0 p i) (gMs L xs p i)
def gAd0 (q0 q1 : Nat) (u v : Nat → Nat) (ad : Nat → Nat) : Nat → Nat := fun p => cond (Nat.blt p 107) (cond (Nat.beq p 0) q0 (cond (Nat.blt p 81) (u p) (cond (Nat.beq p 81) q1 (v (p - 81))))) (ad p)
theorem va_row {D : va_G} {cl : List vw_C} {q n : Nat} {c : ClassId} {f g : Nat → Int32} {H : Heap} (h : va_at D cl (q, .inl (c, n, .inl f)) H) (hfg : ∀ i, i < n → f i = g i) : va_at D cl (q, .inl (c, n, .inl g)) H := by
  have e : vp_cell c (n, .inl f) = vp_cell c (n, .inl g) := by
    rw [vp_cell_i, vp_cell_i]
    unfold arrV
    congr 2
    funext j
    exact congrArg Value.int (hfg j.1 j.2)
  show H[q]? = some (vp_cell c (n, .inl g))
  rw [← e]
  exact h
theorem va_rowQ {D : va_G} {cl : List vw_C} {q n : Nat} {c : ClassId} {f g : Nat → Option Nat} {H : Heap} (h : va_at D cl (q, .inl (c, n, .inr (.inr (.inr (.inr f))))) H) (hfg : ∀ i, i < n → f i = g i) : va_at D cl (q, .inl (c, n, .inr (.inr (.inr (.inr g))))) H := by
  have e : vp_cell c (n, .inr (.inr (.inr (.inr f)))) = vp_cell c (n, .inr (.inr (.inr (.inr g)))) := by
    rw [vp_cell_q, vp_cell_q]
    unfold arrV
    congr 2
    funext j
    exact congrArg va_rf (hfg j.1 j.2)
  show H[q]? = some (vp_cell c (n, .inr (.inr (.inr (.inr g)))))
  rw [← e]
  exact h
theorem gwd_88 : ∀ i, i < 4 → ((upd (upd (upd (upd (fun _ => 0) 0 (-1)) 1 (-1)) 2 (-1)) 3 (-1)) : Nat → Int32) i = gI (gInit0 88 i) := by decide +kernel
theorem gwd_92 : ∀ i, i < 5 → ((upd (upd (upd (upd (upd (fun _ => 0) 0 104) 1 111) 2 117) 3 115) 4 101) : Nat → Int32) i = gI (gInit0 92 i) := by decide +kernel
theorem gwd_93 : ∀ i, i < 5 → ((upd (upd (upd (upd (upd (fun _ => 0) 0 103) 1 117) 2 101) 3 115) 4 116) : Nat → Int32) i = gI (gInit0 93 i) := by decide +kernel
theorem gwd_94 : ∀ i, i < 5 → ((upd (upd (upd (upd (upd (fun _ => 0) 0 119) 1 105) 2 100) 3 111) 4 119) : Nat → Int32) i = gI (gInit0 94 i) := by decide +kernel
theorem gwd_95 : ∀ i, i < 7 → ((upd (upd (upd (upd (upd (upd (upd (fun _ => 0) 0 103) 1 101) 2 110) 3 101) 4 114) 5 97) 6 108) : Nat → Int32) i = gI (gInit0 95 i) := by decide +kernel
theorem gwd_96 : ∀ i, i < 5 → ((upd (upd (upd (upd (upd (fun _ => 0) 0 99) 1 104) 2 105) 3 108) 4 100) : Nat → Int32) i = gI (gInit0 96 i) := by decide +kernel
theorem gwd_97 : ∀ i, i < 5 → ((upd (upd (upd (upd (upd (fun _ => 0) 0 115) 1 97) 2 105) 3 110) 4 116) : Nat → Int32) i = gI (gInit0 97 i) := by decide +kernel
theorem gwd_98 : ∀ i, i < 4 → ((upd (upd (upd (upd (fun _ => 0) 0 112) 1 97) 2 105) 3 114) : Nat → Int32) i = gI (gInit0 98 i) := by decide +kernel
set_option maxHeartbeats 8000000 in
set_option maxRecDepth 100000 in
theorem gW_start {D : va_G} {cA : Nat → ClassId} {q0 q1 L : Nat} {u v ad : Nat → Nat} {xs : Nat → Int32} {H : Heap} (hP : va_P D vwCl (gw_X9_init cA q0 u ++ gw_X10_init cA q1 v) H) : va_P D vwCl (gcW cA (gAd0 q0 q1 u v ad) (gMi0 L xs)) H := by
  have key : ∀ k, k < gN → va_at D vwCl (gAd0 q0 q1 u v ad k, gcE cA (gAd0 q0 q1 u v ad) (gMi0 L xs) k) H := by
    intro k hk
    match k, hk with
    | 0, _ => exact hP 0 (q0, .inr (9, [.ref (u 1), .ref (u 6), .ref (u 14), .ref (u 17), .ref (u 20), .ref (u 46), .ref (u 53), .ref (u 54), .ref (u 58), .ref (u 64), .ref (u 68)])) rfl
    | 1, _ => exact hP 1 ((u 1), .inr (7, [.ref (u 2), .int 0, .int 0, .ref (u 3), .ref (u 4), .ref (u 5), .int 0, .int 0, .int 0, .int 0, .int 3])) rfl
    | 2, _ => exact hP 2 ((u 2), .inl (cA 0, 200, .inl (fun _ => 0))) rfl
    | 3, _ => exact hP 3 ((u 3), .inl (cA 0, 20, .inl (fun _ => 0))) rfl
    | 4, _ => exact hP 4 ((u 4), .inl (cA 0, 20, .inl (fun _ => 0))) rfl
    | 5, _ => exact hP 5 ((u 5), .inl (cA 0, 60, .inl (fun _ => 0))) rfl
    | 6, _ => exact hP 6 ((u 6), .inr (5, [.int 0, .ref (u 7), .ref (u 8), .ref (u 11)])) rfl
    | 7, _ => exact hP 7 ((u 7), .inl (cA 0, 7, .inl (fun _ => 0))) rfl
    | 8, _ => exact hP 8 ((u 8), .inr (1, [.int 0, .ref (u 9), .ref (u 10)])) rfl
    | 9, _ => exact hP 9 ((u 9), .inl (cA 0, 7, .inl (fun _ => 0))) rfl
    | 10, _ => exact hP 10 ((u 10), .inl (cA 0, 21, .inl (fun _ => 0))) rfl
    | 11, _ => exact hP 11 ((u 11), .inr (1, [.int 0, .ref (u 12), .ref (u 13)])) rfl
    | 12, _ => exact hP 12 ((u 12), .inl (cA 0, 7, .inl (fun _ => 0))) rfl
    | 13, _ => exact hP 13 ((u 13), .inl (cA 0, 21, .inl (fun _ => 0))) rfl
    | 14, _ => exact hP 14 ((u 14), .inr (4, [.int 0, .ref (u 15), .ref (u 16)])) rfl
    | 15, _ => exact hP 15 ((u 15), .inl (cA 0, 12, .inl (fun _ => 0))) rfl
    | 16, _ => exact hP 16 ((u 16), .inl (cA 0, 12, .inl (fun _ => 0))) rfl
    | 17, _ => exact hP 17 ((u 17), .inr (4, [.int 0, .ref (u 18), .ref (u 19)])) rfl
    | 18, _ => exact hP 18 ((u 18), .inl (cA 0, 12, .inl (fun _ => 0))) rfl
    | 19, _ => exact hP 19 ((u 19), .inl (cA 0, 12, .inl (fun _ => 0))) rfl
    | 20, _ => exact hP 20 ((u 20), .inr (8, [.int 0, .int 0, .ref (u 21)])) rfl
    | 21, _ => exact va_rowQ (hP 21 ((u 21), .inl (cA 2, 8, .inr (.inr (.inr (.inr (va_up (va_up (va_up (va_up (va_up (va_up (va_up (va_up (fun _ => none) 0 (some (u 22))) 1 (some (u 25))) 2 (some (u 28))) 3 (some (u 31))) 4 (some (u 34))) 5 (some (u 37))) 6 (some (u 40))) 7 (some (u 43)))))))) rfl) (fun i hi => by
        match i, hi with
        | 0, _ => rfl
        | 1, _ => rfl
        | 2, _ => rfl
        | 3, _ => rfl
        | 4, _ => rfl
        | 5, _ => rfl
        | 6, _ => rfl
        | 7, _ => rfl
        | i + 8, h => exact absurd h (by omega))
    | 22, _ => exact hP 22 ((u 22), .inr (1, [.int 0, .ref (u 23), .ref (u 24)])) rfl
    | 23, _ => exact hP 23 ((u 23), .inl (cA 0, 7, .inl (fun _ => 0))) rfl
    | 24, _ => exact hP 24 ((u 24), .inl (cA 0, 21, .inl (fun _ => 0))) rfl
    | 25, _ => exact hP 25 ((u 25), .inr (1, [.int 0, .ref (u 26), .ref (u 27)])) rfl
    | 26, _ => exact hP 26 ((u 26), .inl (cA 0, 7, .inl (fun _ => 0))) rfl
    | 27, _ => exact hP 27 ((u 27), .inl (cA 0, 21, .inl (fun _ => 0))) rfl
    | 28, _ => exact hP 28 ((u 28), .inr (1, [.int 0, .ref (u 29), .ref (u 30)])) rfl
    | 29, _ => exact hP 29 ((u 29), .inl (cA 0, 7, .inl (fun _ => 0))) rfl
    | 30, _ => exact hP 30 ((u 30), .inl (cA 0, 21, .inl (fun _ => 0))) rfl
    | 31, _ => exact hP 31 ((u 31), .inr (1, [.int 0, .ref (u 32), .ref (u 33)])) rfl
    | 32, _ => exact hP 32 ((u 32), .inl (cA 0, 7, .inl (fun _ => 0))) rfl
    | 33, _ => exact hP 33 ((u 33), .inl (cA 0, 21, .inl (fun _ => 0))) rfl
    | 34, _ => exact hP 34 ((u 34), .inr (1, [.int 0, .ref (u 35), .ref (u 36)])) rfl
    | 35, _ => exact hP 35 ((u 35), .inl (cA 0, 7, .inl (fun _ => 0))) rfl
    | 36, _ => exact hP 36 ((u 36), .inl (cA 0, 21, .inl (fun _ => 0))) rfl
    | 37, _ => exact hP 37 ((u 37), .inr (1, [.int 0, .ref (u 38), .ref (u 39)])) rfl
    | 38, _ => exact hP 38 ((u 38), .inl (cA 0, 7, .inl (fun _ => 0))) rfl
    | 39, _ => exact hP 39 ((u 39), .inl (cA 0, 21, .inl (fun _ => 0))) rfl
    | 40, _ => exact hP 40 ((u 40), .inr (1, [.int 0, .ref (u 41), .ref (u 42)])) rfl
    | 41, _ => exact hP 41 ((u 41), .inl (cA 0, 7, .inl (fun _ => 0))) rfl
    | 42, _ => exact hP 42 ((u 42), .inl (cA 0, 21, .inl (fun _ => 0))) rfl
    | 43, _ => exact hP 43 ((u 43), .inr (1, [.int 0, .ref (u 44), .ref (u 45)])) rfl
    | 44, _ => exact hP 44 ((u 44), .inl (cA 0, 7, .inl (fun _ => 0))) rfl
    | 45, _ => exact hP 45 ((u 45), .inl (cA 0, 21, .inl (fun _ => 0))) rfl
    | 46, _ => exact va_rowQ (hP 46 ((u 46), .inl (cA 2, 2, .inr (.inr (.inr (.inr (va_up (va_up (fun _ => none) 0 (some (u 47))) 1 (some (u 50)))))))) rfl) (fun i hi => by
        match i, hi with
        | 0, _ => rfl
        | 1, _ => rfl
        | i + 2, h => exact absurd h (by omega))
    | 47, _ => exact hP 47 ((u 47), .inr (1, [.int 0, .ref (u 48), .ref (u 49)])) rfl
    | 48, _ => exact hP 48 ((u 48), .inl (cA 0, 7, .inl (fun _ => 0))) rfl
    | 49, _ => exact hP 49 ((u 49), .inl (cA 0, 21, .inl (fun _ => 0))) rfl
    | 50, _ => exact hP 50 ((u 50), .inr (1, [.int 0, .ref (u 51), .ref (u 52)])) rfl
    | 51, _ => exact hP 51 ((u 51), .inl (cA 0, 7, .inl (fun _ => 0))) rfl
    | 52, _ => exact hP 52 ((u 52), .inl (cA 0, 21, .inl (fun _ => 0))) rfl
    | 53, _ => exact hP 53 ((u 53), .inl (cA 1, 2, .inl (fun _ => 0))) rfl
    | 54, _ => exact hP 54 ((u 54), .inr (6, [.int 0, .ref (u 55), .ref (u 56), .ref (u 57)])) rfl
    | 55, _ => exact hP 55 ((u 55), .inl (cA 0, 6, .inl (fun _ => 0))) rfl
    | 56, _ => exact hP 56 ((u 56), .inl (cA 0, 6, .inl (fun _ => 0))) rfl
    | 57, _ => exact hP 57 ((u 57), .inl (cA 0, 6, .inl (fun _ => 0))) rfl
    | 58, _ => exact hP 58 ((u 58), .inr (3, [.int 0, .ref (u 59), .ref (u 60), .ref (u 61), .ref (u 62), .ref (u 63)])) rfl
    | 59, _ => exact hP 59 ((u 59), .inl (cA 0, 49, .inl (fun _ => 0))) rfl
    | 60, _ => exact hP 60 ((u 60), .inl (cA 0, 7, .inl (fun _ => 0))) rfl
    | 61, _ => exact hP 61 ((u 61), .inl (cA 0, 128, .inl (fun _ => 0))) rfl
    | 62, _ => exact hP 62 ((u 62), .inl (cA 0, 128, .inl (fun _ => 0))) rfl
    | 63, _ => exact hP 63 ((u 63), .inl (cA 0, 7, .inl (fun _ => 0))) rfl
    | 64, _ => exact hP 64 ((u 64), .inr (2, [.ref (u 65), .ref (u 66), .ref (u 67)])) rfl
    | 65, _ => exact hP 65 ((u 65), .inl (cA 0, 7, .inl (fun _ => 0))) rfl
    | 66, _ => exact hP 66 ((u 66), .inl (cA 0, 7, .inl (fun _ => 0))) rfl
    | 67, _ => exact hP 67 ((u 67), .inl (cA 0, 7, .inl (fun _ => 0))) rfl
    | 68, _ => exact va_rowQ (hP 68 ((u 68), .inl (cA 3, 4, .inr (.inr (.inr (.inr (va_up (va_up (va_up (va_up (fun _ => none) 0 (some (u 69))) 1 (some (u 72))) 2 (some (u 75))) 3 (some (u 78)))))))) rfl) (fun i hi => by
        match i, hi with
        | 0, _ => rfl
        | 1, _ => rfl
        | 2, _ => rfl
        | 3, _ => rfl
        | i + 4, h => exact absurd h (by omega))
    | 69, _ => exact hP 69 ((u 69), .inr (0, [.int 0, .int 0, .ref (u 70), .ref (u 71)])) rfl
    | 70, _ => exact hP 70 ((u 70), .inl (cA 0, 10, .inl (fun _ => 0))) rfl
    | 71, _ => exact hP 71 ((u 71), .inl (cA 0, 10, .inl (fun _ => 0))) rfl
    | 72, _ => exact hP 72 ((u 72), .inr (0, [.int 0, .int 0, .ref (u 73), .ref (u 74)])) rfl
    | 73, _ => exact hP 73 ((u 73), .inl (cA 0, 10, .inl (fun _ => 0))) rfl
    | 74, _ => exact hP 74 ((u 74), .inl (cA 0, 10, .inl (fun _ => 0))) rfl
    | 75, _ => exact hP 75 ((u 75), .inr (0, [.int 0, .int 0, .ref (u 76), .ref (u 77)])) rfl
    | 76, _ => exact hP 76 ((u 76), .inl (cA 0, 10, .inl (fun _ => 0))) rfl
    | 77, _ => exact hP 77 ((u 77), .inl (cA 0, 10, .inl (fun _ => 0))) rfl
    | 78, _ => exact hP 78 ((u 78), .inr (0, [.int 0, .int 0, .ref (u 79), .ref (u 80)])) rfl
    | 79, _ => exact hP 79 ((u 79), .inl (cA 0, 10, .inl (fun _ => 0))) rfl
    | 80, _ => exact hP 80 ((u 80), .inl (cA 0, 10, .inl (fun _ => 0))) rfl
    | 81, _ => exact hP 81 (q1, .inr (10, [.ref (v 1), .int 0, .ref (v 2), .ref (v 3), .int 0, .int 0, .ref (v 4), .ref (v 5), .ref (v 6), .ref (v 7), .ref (v 8), .ref (v 9), .int 0, .int 0, .int 0, .int 0, .int 0, .int 0, .ref (v 10), .ref (v 11), .ref (v 12), .ref (v 13), .ref (v 14), .ref (v 15), .ref (v 16), .ref (v 17), .ref (v 18), .ref (v 19), .ref (v 20), .ref (v 21), .int 0, .ref (v 22), .ref (v 23), .ref (v 24), .ref (v 25)])) rfl
    | 82, _ => exact hP 82 ((v 1), .inl (cA 0, 443, .inl (fun _ => 0))) rfl
    | 83, _ => exact hP 83 ((v 2), .inl (cA 1, 2, .inl (fun _ => 0))) rfl
    | 84, _ => exact hP 84 ((v 3), .inl (cA 0, 200, .inl (fun _ => 0))) rfl
    | 85, _ => exact hP 85 ((v 4), .inl (cA 0, 6, .inl (fun _ => 0))) rfl
    | 86, _ => exact hP 86 ((v 5), .inl (cA 0, 6, .inl (fun _ => 0))) rfl
    | 87, _ => exact hP 87 ((v 6), .inl (cA 0, 6, .inl (fun _ => 0))) rfl
    | 88, _ => exact va_row (hP 88 ((v 7), .inl (cA 0, 4, .inl (upd (upd (upd (upd (fun _ => 0) 0 (-1)) 1 (-1)) 2 (-1)) 3 (-1)))) rfl) gwd_88
    | 89, _ => exact hP 89 ((v 8), .inl (cA 0, 40, .inl (fun _ => 0))) rfl
    | 90, _ => exact hP 90 ((v 9), .inl (cA 0, 40, .inl (fun _ => 0))) rfl
    | 91, _ => exact hP 91 ((v 10), .inl (cA 0, 3, .inl (fun _ => 0))) rfl
    | 92, _ => exact va_row (hP 92 ((v 11), .inl (cA 0, 5, .inl (upd (upd (upd (upd (upd (fun _ => 0) 0 104) 1 111) 2 117) 3 115) 4 101))) rfl) gwd_92
    | 93, _ => exact va_row (hP 93 ((v 12), .inl (cA 0, 5, .inl (upd (upd (upd (upd (upd (fun _ => 0) 0 103) 1 117) 2 101) 3 115) 4 116))) rfl) gwd_93
    | 94, _ => exact va_row (hP 94 ((v 13), .inl (cA 0, 5, .inl (upd (upd (upd (upd (upd (fun _ => 0) 0 119) 1 105) 2 100) 3 111) 4 119))) rfl) gwd_94
    | 95, _ => exact va_row (hP 95 ((v 14), .inl (cA 0, 7, .inl (upd (upd (upd (upd (upd (upd (upd (fun _ => 0) 0 103) 1 101) 2 110) 3 101) 4 114) 5 97) 6 108))) rfl) gwd_95
    | 96, _ => exact va_row (hP 96 ((v 15), .inl (cA 0, 5, .inl (upd (upd (upd (upd (upd (fun _ => 0) 0 99) 1 104) 2 105) 3 108) 4 100))) rfl) gwd_96
    | 97, _ => exact va_row (hP 97 ((v 16), .inl (cA 0, 5, .inl (upd (upd (upd (upd (upd (fun _ => 0) 0 115) 1 97) 2 105) 3 110) 4 116))) rfl) gwd_97
    | 98, _ => exact va_row (hP 98 ((v 17), .inl (cA 0, 4, .inl (upd (upd (upd (upd (fun _ => 0) 0 112) 1 97) 2 105) 3 114))) rfl) gwd_98
    | 99, _ => exact hP 99 ((v 18), .inl (cA 0, 7, .inl (fun _ => 0))) rfl
    | 100, _ => exact hP 100 ((v 19), .inl (cA 0, 7, .inl (fun _ => 0))) rfl
    | 101, _ => exact hP 101 ((v 20), .inl (cA 0, 7, .inl (fun _ => 0))) rfl
    | 102, _ => exact hP 102 ((v 21), .inl (cA 0, 49, .inl (fun _ => 0))) rfl
    | 103, _ => exact hP 103 ((v 22), .inl (cA 0, 7, .inl (fun _ => 0))) rfl
    | 104, _ => exact hP 104 ((v 23), .inl (cA 0, 7, .inl (fun _ => 0))) rfl
    | 105, _ => exact hP 105 ((v 24), .inl (cA 0, 10, .inl (fun _ => 0))) rfl
    | 106, _ => exact hP 106 ((v 25), .inl (cA 0, 10, .inl (fun _ => 0))) rfl
    | k + 107, h => exact absurd h (by show ¬ k + 107 < 107; omega)
  intro k q hq
  obtain ⟨hk, hq1⟩ := gcW_fst (x := q.2) hq
  rw [gcW_at cA _ _ hk] at hq
  cases hq
  exact key k hk
theorem gD_start {A : Nat → Prop} {cA : Nat → ClassId} {q0 q1 : Nat} {u v ad : Nat → Nat} {M : gM} (hD : va_D A (gw_X9_init cA q0 u ++ gw_X10_init cA q1 v)) : va_D A (gcW cA (gAd0 q0 q1 u v ad) M) := by
  have key : ∀ k, k < gN → ∃ e, (gw_X9_init cA q0 u ++ gw_X10_init cA q1 v)[k]? = some (gAd0 q0 q1 u v ad k, e) := by
    intro k hk
    match k, hk with
    | 0, _ => exact ⟨_, rfl⟩
    | 1, _ => exact ⟨_, rfl⟩
    | 2, _ => exact ⟨_, rfl⟩
    | 3, _ => exact ⟨_, rfl⟩
    | 4, _ => exact ⟨_, rfl⟩
    | 5, _ => exact ⟨_, rfl⟩
    | 6, _ => exact ⟨_, rfl⟩
    | 7, _ => exact ⟨_, rfl⟩
    | 8, _ => exact ⟨_, rfl⟩
    | 9, _ => exact ⟨_, rfl⟩
    | 10, _ => exact ⟨_, rfl⟩
    | 11, _ => exact ⟨_, rfl⟩
    | 12, _ => exact ⟨_, rfl⟩
    | 13, _ => exact ⟨_, rfl⟩
    | 14, _ => exact ⟨_, rfl⟩
    | 15, _ => exact ⟨_, rfl⟩
    | 16, _ => exact ⟨_, rfl⟩
    | 17, _ => exact ⟨_, rfl⟩
    | 18, _ => exact ⟨_, rfl⟩
    | 19, _ => exact ⟨_, rfl⟩
    | 20, _ => exact ⟨_, rfl⟩
    | 21, _ => exact ⟨_, rfl⟩
    | 22, _ => exact ⟨_, rfl⟩
    | 23, _ => exact ⟨_, rfl⟩
    | 24, _ => exact ⟨_, rfl⟩
    | 25, _ => exact ⟨_, rfl⟩
    | 26, _ => exact ⟨_, rfl⟩
    | 27, _ => exact ⟨_, rfl⟩
    | 28, _ => exact ⟨_, rfl⟩
    | 29, _ => exact ⟨_, rfl⟩
    | 30, _ => exact ⟨_, rfl⟩
    | 31, _ => exact ⟨_, rfl⟩
    | 32, _ => exact ⟨_, rfl⟩
    | 33, _ => exact ⟨_, rfl⟩
    | 34, _ => exact ⟨_, rfl⟩
    | 35, _ => exact ⟨_, rfl⟩
    | 36, _ => exact ⟨_, rfl⟩
    | 37, _ => exact ⟨_, rfl⟩
    | 38, _ => exact ⟨_, rfl⟩
    | 39, _ => exact ⟨_, rfl⟩
    | 40, _ => exact ⟨_, rfl⟩
    | 41, _ => exact ⟨_, rfl⟩
    | 42, _ => exact ⟨_, rfl⟩
    | 43, _ => exact ⟨_, rfl⟩
    | 44, _ => exact ⟨_, rfl⟩
    | 45, _ => exact ⟨_, rfl⟩
    | 46, _ => exact ⟨_, rfl⟩
    | 47, _ => exact ⟨_, rfl⟩
    | 48, _ => exact ⟨_, rfl⟩
    | 49, _ => exact ⟨_, rfl⟩
    | 50, _ => exact ⟨_, rfl⟩
    | 51, _ => exact ⟨_, rfl⟩
    | 52, _ => exact ⟨_, rfl⟩
    | 53, _ => exact ⟨_, rfl⟩
    | 54, _ => exact ⟨_, rfl⟩
    | 55, _ => exact ⟨_, rfl⟩
    | 56, _ => exact ⟨_, rfl⟩
    | 57, _ => exact ⟨_, rfl⟩
    | 58, _ => exact ⟨_, rfl⟩
    | 59, _ => exact ⟨_, rfl⟩
    | 60, _ => exact ⟨_, rfl⟩
    | 61, _ => exact ⟨_, rfl⟩
    | 62, _ => exact ⟨_, rfl⟩
    | 63, _ => exact ⟨_, rfl⟩
    | 64, _ => exact ⟨_, rfl⟩
    | 65, _ => exact ⟨_, rfl⟩
    | 66, _ => exact ⟨_, rfl⟩
    | 67, _ => exact ⟨_, rfl⟩
    | 68, _ => exact ⟨_, rfl⟩
    | 69, _ => exact ⟨_, rfl⟩
    | 70, _ => exact ⟨_, rfl⟩
    | 71, _ => exact ⟨_, rfl⟩
    | 72, _ => exact ⟨_, rfl⟩
    | 73, _ => exact ⟨_, rfl⟩
    | 74, _ => exact ⟨_, rfl⟩
    | 75, _ => exact ⟨_, rfl⟩
    | 76, _ => exact ⟨_, rfl⟩
    | 77, _ => exact ⟨_, rfl⟩
    | 78, _ => exact ⟨_, rfl⟩
    | 79, _ => exact ⟨_, rfl⟩
    | 80, _ => exact ⟨_, rfl⟩
    | 81, _ => exact ⟨_, rfl⟩
    | 82, _ => exact ⟨_, rfl⟩
    | 83, _ => exact ⟨_, rfl⟩
    | 84, _ => exact ⟨_, rfl⟩
    | 85, _ => exact ⟨_, rfl⟩
    | 86, _ => exact ⟨_, rfl⟩
    | 87, _ => exact ⟨_, rfl⟩
    | 88, _ => exact ⟨_, rfl⟩
    | 89, _ => exact ⟨_, rfl⟩
    | 90, _ => exact ⟨_, rfl⟩
    | 91, _ => exact ⟨_, rfl⟩
    | 92, _ => exact ⟨_, rfl⟩
    | 93, _ => exact ⟨_, rfl⟩
    | 94, _ => exact ⟨_, rfl⟩
    | 95, _ => exact ⟨_, rfl⟩
    | 96, _ => exact ⟨_, rfl⟩
    | 97, _ => exact ⟨_, rfl⟩
    | 98, _ => exact ⟨_, rfl⟩
    | 99, _ => exact ⟨_, rfl⟩
    | 100, _ => exact ⟨_, rfl⟩
    | 101, _ => exact ⟨_, rfl⟩
    | 102, _ => exact ⟨_, rfl⟩
    | 103, _ => exact ⟨_, rfl⟩
    | 104, _ => exact ⟨_, rfl⟩
    | 105, _ => exact ⟨_, rfl⟩
    | 106, _ => exact ⟨_, rfl⟩
    | k + 107, h => exact absurd h (by show ¬ k + 107 < 107; omega)
  refine ⟨fun i j x y hi hj hxy => ?_, fun k q hk => ?_⟩
  · obtain ⟨hi', e1⟩ := gcW_fst (x := x.2) hi
    obtain ⟨hj', e2⟩ := gcW_fst (x := y.2) hj
    obtain ⟨f1, h1⟩ := key i hi'
    obtain ⟨f2, h2⟩ := key j hj'
    exact hD.1 i j _ _ h1 h2 (by show gAd0 q0 q1 u v ad i = gAd0 q0 q1 u v ad j; rw [← e1, ← e2]; exact hxy)
  · obtain ⟨hk', e1⟩ := gcW_fst (x := q.2) hk
    obtain ⟨f1, h1⟩ := key k hk'
    rw [e1]
    exact hD.2 k _ h1
