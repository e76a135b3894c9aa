-- 30: equations (by program)
noncomputable def L_X0_renew_12 (C : gCl) (n : Nat) (g : Nat) (x1 : Int) (x2 : Int) (M : gM) : Option gR := gRun gLay C (fun M v => some (M, v)) gC_X0_renew gH_X0_renew n 12 [some (.inr (.inr (g + 1))), some (.inl x1), some (.inl x2)] [] M
set_option maxRecDepth 20000 in
set_option maxHeartbeats 4000000 in
theorem q_X0_renew_12 (C : gCl) (n : Nat) (g : Nat) (x1 : Int) (x2 : Int) (M : gM) (hg : g = 69 ∨ g = 72 ∨ g = 75 ∨ g = 78) : L_X0_renew_12 C (n + 1) g x1 x2 M =
  cond (gLt x2 10) (
    gIf (gInb x2 10) (
    L_X0_renew_12 C n g x1 (x2 + 1) (gU M (g + 1) (gIx x2) 3))) (
    some (M, none)) := by
  rcases hg with rfl | rfl | rfl | rfl <;> rfl
set_option maxRecDepth 20000 in
set_option maxHeartbeats 4000000 in
theorem q_X0_renew (N d : Nat) (g : Nat) (a0 : Int) (M : gM) (hg : g = 69 ∨ g = 72 ∨ g = 75 ∨ g = 78) : gEv N (d + 1) 0 [.inr (.inr (g + 1)), .inl a0] M =
  gIf (gB01 1) (
  L_X0_renew_12 (gEv N d) N g a0 0 (gU (gU M g 0 1) g 1 a0)) := by
  rcases hg with rfl | rfl | rfl | rfl <;> rfl
set_option maxRecDepth 20000 in
set_option maxHeartbeats 4000000 in
theorem q_X0_hasPlace (N d : Nat) (g : Nat) (a0 : Int) (M : gM) (hg : g = 69 ∨ g = 72 ∨ g = 75 ∨ g = 78) : gEv N (d + 1) 1 [.inr (.inr (g + 1)), .inl a0] M =
  cond (gLt a0 0) (
    gIf (gB01 0) (some (M, some (.inl 0)))) (
    cond (gLt a0 (M g 1)) (
      gIf (gB01 1) (some (M, some (.inl 1)))) (
      gIf (gB01 0) (some (M, some (.inl 0))))) := by
  rcases hg with rfl | rfl | rfl | rfl <;> rfl
set_option maxRecDepth 20000 in
set_option maxHeartbeats 4000000 in
theorem q_X0_hasPlaces (N d : Nat) (g : Nat) (a0 : Int) (a1 : Int) (M : gM) (hg : g = 69 ∨ g = 72 ∨ g = 75 ∨ g = 78) : gEv N (d + 1) 2 [.inr (.inr (g + 1)), .inl a0, .inl a1] M =
  cond (gLt a0 0) (
    gIf (gB01 0) (some (M, some (.inl 0)))) (
    cond (gLt a1 0) (
      gIf (gB01 0) (some (M, some (.inl 0)))) (
      cond (gLt ((M g 1) - a1) a0) (
        gIf (gB01 0) (some (M, some (.inl 0)))) (
        gIf (gB01 1) (some (M, some (.inl 1)))))) := by
  rcases hg with rfl | rfl | rfl | rfl <;> rfl
noncomputable def L_X0_howManyThings_4 (C : gCl) (n : Nat) (g : Nat) (x1 : Int) (x2 : Int) (M : gM) : Option gR := gRun gLay C (fun M v => some (M, v)) gC_X0_howManyThings gH_X0_howManyThings n 4 [some (.inr (.inr (g + 1))), some (.inl x1), some (.inl x2)] [] M
set_option maxRecDepth 20000 in
set_option maxHeartbeats 4000000 in
theorem q_X0_howManyThings_4 (C : gCl) (n : Nat) (g : Nat) (x1 : Int) (x2 : Int) (M : gM) (hg : g = 69 ∨ g = 72 ∨ g = 75 ∨ g = 78) : L_X0_howManyThings_4 C (n + 1) g x1 x2 M =
  cond (gLt x2 (M g 1)) (
    gIf (gInb x2 10) (
    cond (gEq (M (g + 1) (gIx x2)) 3) (
      L_X0_howManyThings_4 C n g x1 (x2 + 1) M) (
      L_X0_howManyThings_4 C n g (x1 + 1) (x2 + 1) M))) (
    some (M, some (.inl x1))) := by
  rcases hg with rfl | rfl | rfl | rfl <;> rfl
set_option maxRecDepth 20000 in
set_option maxHeartbeats 4000000 in
theorem q_X0_howManyThings (N d : Nat) (g : Nat) (M : gM) (hg : g = 69 ∨ g = 72 ∨ g = 75 ∨ g = 78) : gEv N (d + 1) 3 [.inr (.inr (g + 1))] M =
  L_X0_howManyThings_4 (gEv N d) N g 0 0 M := by
  rcases hg with rfl | rfl | rfl | rfl <;> rfl
noncomputable def L_X0_isOfLikeThings_2 (C : gCl) (n : Nat) (g : Nat) (x1 : Int) (M : gM) : Option gR := gRun gLay C (fun M v => some (M, v)) gC_X0_isOfLikeThings gH_X0_isOfLikeThings n 2 [some (.inr (.inr (g + 1))), some (.inl x1)] [] M
set_option maxRecDepth 20000 in
set_option maxHeartbeats 4000000 in
theorem q_X0_isOfLikeThings_2 (C : gCl) (n : Nat) (g : Nat) (x1 : Int) (M : gM) (hg : g = 69 ∨ g = 72 ∨ g = 75 ∨ g = 78) : L_X0_isOfLikeThings_2 C (n + 1) g x1 M =
  cond (gLt x1 (M g 1)) (
    gIf (gInb x1 10) (
    gIf (gInb 0 10) (
    cond (gEq (M (g + 1) (gIx x1)) (M (g + 1) (gIx 0))) (
      L_X0_isOfLikeThings_2 C n g (x1 + 1) M) (
      gIf (gB01 0) (some (M, some (.inl 0))))))) (
    gIf (gB01 1) (some (M, some (.inl 1)))) := by
  rcases hg with rfl | rfl | rfl | rfl <;> rfl
set_option maxRecDepth 20000 in
set_option maxHeartbeats 4000000 in
theorem q_X0_isOfLikeThings (N d : Nat) (g : Nat) (M : gM) (hg : g = 69 ∨ g = 72 ∨ g = 75 ∨ g = 78) : gEv N (d + 1) 4 [.inr (.inr (g + 1))] M =
  L_X0_isOfLikeThings_2 (gEv N d) N g 1 M := by
  rcases hg with rfl | rfl | rfl | rfl <;> rfl
noncomputable def L_X0_sort_2 (C : gCl) (n : Nat) (g : Nat) (x2 : Int) (M : gM) : Option gR := gRun gLay C (fun M v => some (M, v)) gC_X0_sort gH_X0_sort n 2 [some (.inr (.inr (g + 1))), some (.inr (.inr (7))), some (.inl x2), none, none] [] M
noncomputable def L_X0_sort_20 (C : gCl) (n : Nat) (g : Nat) (x2 : Int) (x3 : Int) (x4 : Int) (M : gM) : Option gR := gRun gLay C (fun M v => some (M, v)) gC_X0_sort gH_X0_sort n 20 [some (.inr (.inr (g + 1))), some (.inr (.inr (7))), some (.inl x2), some (.inl x3), some (.inl x4)] [] M
set_option maxRecDepth 20000 in
set_option maxHeartbeats 4000000 in
theorem q_X0_sort_2 (C : gCl) (n : Nat) (g : Nat) (x2 : Int) (M : gM) (hg : g = 69 ∨ g = 72 ∨ g = 75 ∨ g = 78) : L_X0_sort_2 C (n + 1) g x2 M =
  cond (gLt x2 (M g 1)) (
    gIf (gInb x2 10) (
    L_X0_sort_20 C n g x2 (M (g + 2) (gIx x2)) x2 M)) (
    some (M, none)) := by
  rcases hg with rfl | rfl | rfl | rfl <;> rfl
set_option maxRecDepth 20000 in
set_option maxHeartbeats 4000000 in
theorem q_X0_sort_20 (C : gCl) (n : Nat) (g : Nat) (x2 : Int) (x3 : Int) (x4 : Int) (M : gM) (hg : g = 69 ∨ g = 72 ∨ g = 75 ∨ g = 78) : L_X0_sort_20 C (n + 1) g x2 x3 x4 M =
  cond (gLt 0 x4) (
    gIf (gInb (x4 - 1) 10) (
    gCi (C 6 [.inr (.inr (g + 1)), .inl x3, .inl (M (g + 2) (gIx (x4 - 1))), .inr (.inr (7))] M) (fun M1 r2 =>
    cond (gEq r2 0) (
      gIf (gInb x4 10) (
      L_X0_sort_2 C n g (x2 + 1) (gU M1 (g + 2) (gIx x4) x3))) (
      gIf (gInb (x4 - 1) 10) (
      gIf (gInb x4 10) (
      L_X0_sort_20 C n g x2 x3 (x4 + (-1)) (gU M1 (g + 2) (gIx x4) (M1 (g + 2) (gIx (x4 - 1)))))))))) (
    gIf (gInb x4 10) (
    L_X0_sort_2 C n g (x2 + 1) (gU M (g + 2) (gIx x4) x3))) := by
  rcases hg with rfl | rfl | rfl | rfl <;> rfl
set_option maxRecDepth 20000 in
set_option maxHeartbeats 4000000 in
theorem q_X0_sort (N d : Nat) (g : Nat) (M : gM) (hg : g = 69 ∨ g = 72 ∨ g = 75 ∨ g = 78) : gEv N (d + 1) 5 [.inr (.inr (g + 1)), .inr (.inr (7))] M =
  L_X0_sort_2 (gEv N d) N g 1 M := by
  rcases hg with rfl | rfl | rfl | rfl <;> rfl
set_option maxRecDepth 20000 in
set_option maxHeartbeats 4000000 in
theorem q_X0_comesBefore (N d : Nat) (g : Nat) (a0 : Int) (a1 : Int) (M : gM) (hg : g = 69 ∨ g = 72 ∨ g = 75 ∨ g = 78) : gEv N (d + 1) 6 [.inr (.inr (g + 1)), .inl a0, .inl a1, .inr (.inr (7))] M =
  gIf (gInb 0 10) (
  cond (gEq (M (g + 1) (gIx 0)) 2) (
    gCi ((gEv N d) 24 [.inr (.inr (7)), .inl a0] M) (fun M1 r2 =>
    cond (gEq r2 0) (
      cond (gLt a0 a1) (
        gIf (gB01 1) (some (M1, some (.inl 1)))) (
        gIf (gB01 0) (some (M1, some (.inl 0))))) (
      gCi ((gEv N d) 24 [.inr (.inr (7)), .inl a1] M1) (fun M3 r4 =>
      cond (gEq r4 0) (
        cond (gLt a0 a1) (
          gIf (gB01 1) (some (M3, some (.inl 1)))) (
          gIf (gB01 0) (some (M3, some (.inl 0))))) (
        gCi ((gEv N d) 27 [.inr (.inr (7)), .inl a0, .inl 0] M3) (fun M5 r6 =>
        gCi ((gEv N d) 27 [.inr (.inr (7)), .inl a1, .inl 0] M5) (fun M7 r8 =>
        cond (gLt r8 r6) (
          gIf (gB01 1) (some (M7, some (.inl 1)))) (
          cond (gEq r6 r8) (
            cond (gLt a0 a1) (
              gIf (gB01 1) (some (M7, some (.inl 1)))) (
              gIf (gB01 0) (some (M7, some (.inl 0))))) (
            gIf (gB01 0) (some (M7, some (.inl 0)))))))))))) (
    cond (gLt a0 a1) (
      gIf (gB01 1) (some (M, some (.inl 1)))) (
      gIf (gB01 0) (some (M, some (.inl 0)))))) := by
  rcases hg with rfl | rfl | rfl | rfl <;> rfl
set_option maxRecDepth 20000 in
set_option maxHeartbeats 4000000 in
theorem q_X1_become (N d : Nat) (g : Nat) (h : Nat) (M : gM) (hg : g = 8 ∨ g = 11 ∨ g = 22 ∨ g = 25 ∨ g = 28 ∨ g = 31 ∨ g = 34 ∨ g = 37 ∨ g = 40 ∨ g = 43 ∨ g = 47 ∨ g = 50) (hh : h = 8 ∨ h = 11 ∨ h = 22 ∨ h = 25 ∨ h = 28 ∨ h = 31 ∨ h = 34 ∨ h = 37 ∨ h = 40 ∨ h = 43 ∨ h = 47 ∨ h = 50) : gEv N (d + 1) 7 [.inr (.inr (g + 1)), .inr (.inr (h + 1))] M =
  gIf (decide (0 ≤ gW 0 ∧ 0 ≤ gW 0 ∧ 0 ≤ gW 7 ∧ gW 0 + gW 7 ≤ ((7 : Nat) : Int) ∧ gW 0 + gW 7 ≤ ((7 : Nat) : Int))) (
  gIf (decide (0 ≤ gW 0 ∧ 0 ≤ gW 0 ∧ 0 ≤ gW 21 ∧ gW 0 + gW 21 ≤ ((21 : Nat) : Int) ∧ gW 0 + gW 21 ≤ ((21 : Nat) : Int))) (
  some (gCp (gCp (gU M g 0 (M h 0)) (h + 1) (gIx 0) (g + 1) (gIx 0) (gIx 7)) (h + 2) (gIx 0) (g + 2) (gIx 0) (gIx 21), none))) := by
  rcases hg with rfl | rfl | rfl | rfl | rfl | rfl | rfl | rfl | rfl | rfl | rfl | rfl <;> rcases hh with rfl | rfl | rfl | rfl | rfl | rfl | rfl | rfl | rfl | rfl | rfl | rfl <;> rfl
set_option maxRecDepth 20000 in
set_option maxHeartbeats 4000000 in
theorem q_X1_weight (N d : Nat) (g : Nat) (a0 : Int) (a1 : Int) (M : gM) (hg : g = 8 ∨ g = 11 ∨ g = 22 ∨ g = 25 ∨ g = 28 ∨ g = 31 ∨ g = 34 ∨ g = 37 ∨ g = 40 ∨ g = 43 ∨ g = 47 ∨ g = 50) : gEv N (d + 1) 8 [.inr (.inr (g + 1)), .inl a0, .inl a1] M =
  gIf (gInb ((a0 * 3) + a1) 21) (
  some (M, some (.inl (M (g + 2) (gIx ((a0 * 3) + a1)))))) := by
  rcases hg with rfl | rfl | rfl | rfl | rfl | rfl | rfl | rfl | rfl | rfl | rfl | rfl <;> rfl
set_option maxRecDepth 20000 in
set_option maxHeartbeats 4000000 in
theorem q_X1_append (N d : Nat) (g : Nat) (a0 : Int) (a1 : Int) (M : gM) (hg : g = 8 ∨ g = 11 ∨ g = 22 ∨ g = 25 ∨ g = 28 ∨ g = 31 ∨ g = 34 ∨ g = 37 ∨ g = 40 ∨ g = 43 ∨ g = 47 ∨ g = 50) : gEv N (d + 1) 9 [.inr (.inr (g + 1)), .inl a0, .inl a1] M =
  gIf (gInb a0 7) (
  cond (gLt (M (g + 1) (gIx a0)) 3) (
    gIf (gInb a0 7) (
    gIf (gInb ((a0 * 3) + (M (g + 1) (gIx a0))) 21) (
    gIf (gInb a0 7) (
    gIf (gInb a0 7) (
    some (gU (gU M (g + 2) (gIx ((a0 * 3) + (M (g + 1) (gIx a0)))) a1) (g + 1) (gIx a0) (((gU M (g + 2) (gIx ((a0 * 3) + (M (g + 1) (gIx a0)))) a1) (g + 1) (gIx a0)) + 1), none)))))) (
    some (M, none))) := by
  rcases hg with rfl | rfl | rfl | rfl | rfl | rfl | rfl | rfl | rfl | rfl | rfl | rfl <;> rfl
noncomputable def L_X1_removeGreatest_4 (C : gCl) (n : Nat) (g : Nat) (x1 : Int) (x2 : Int) (x3 : Int) (M : gM) : Option gR := gRun gLay C (fun M v => some (M, v)) gC_X1_removeGreatest gH_X1_removeGreatest n 4 [some (.inr (.inr (g + 1))), some (.inl x1), some (.inl x2), some (.inl x3), none] [] M
noncomputable def L_X1_removeGreatest_49 (C : gCl) (n : Nat) (g : Nat) (x1 : Int) (x2 : Int) (x3 : Int) (x4 : Int) (M : gM) : Option gR := gRun gLay C (fun M v => some (M, v)) gC_X1_removeGreatest gH_X1_removeGreatest n 49 [some (.inr (.inr (g + 1))), some (.inl x1), some (.inl x2), some (.inl x3), some (.inl x4)] [] M
set_option maxRecDepth 20000 in
set_option maxHeartbeats 4000000 in
theorem q_X1_removeGreatest_4 (C : gCl) (n : Nat) (g : Nat) (x1 : Int) (x2 : Int) (x3 : Int) (M : gM) (hg : g = 8 ∨ g = 11 ∨ g = 22 ∨ g = 25 ∨ g = 28 ∨ g = 31 ∨ g = 34 ∨ g = 37 ∨ g = 40 ∨ g = 43 ∨ g = 47 ∨ g = 50) : L_X1_removeGreatest_4 C (n + 1) g x1 x2 x3 M =
  gIf (gInb x1 7) (
  cond (gLt x3 (M (g + 1) (gIx x1))) (
    gCi (C 8 [.inr (.inr (g + 1)), .inl x1, .inl x3] M) (fun M3 r4 =>
    gCi (C 8 [.inr (.inr (g + 1)), .inl x1, .inl x2] M3) (fun M5 r6 =>
    cond (gLt r6 r4) (
      L_X1_removeGreatest_4 C n g x1 x3 (x3 + 1) M5) (
      L_X1_removeGreatest_4 C n g x1 x2 (x3 + 1) M5)))) (
    gCi (C 8 [.inr (.inr (g + 1)), .inl x1, .inl x2] M) (fun M1 r2 =>
    L_X1_removeGreatest_49 C n g x1 x2 r2 (x2 + 1) M1))) := by
  rcases hg with rfl | rfl | rfl | rfl | rfl | rfl | rfl | rfl | rfl | rfl | rfl | rfl <;> rfl
set_option maxRecDepth 20000 in
set_option maxHeartbeats 4000000 in
theorem q_X1_removeGreatest_49 (C : gCl) (n : Nat) (g : Nat) (x1 : Int) (x2 : Int) (x3 : Int) (x4 : Int) (M : gM) (hg : g = 8 ∨ g = 11 ∨ g = 22 ∨ g = 25 ∨ g = 28 ∨ g = 31 ∨ g = 34 ∨ g = 37 ∨ g = 40 ∨ g = 43 ∨ g = 47 ∨ g = 50) : L_X1_removeGreatest_49 C (n + 1) g x1 x2 x3 x4 M =
  gIf (gInb x1 7) (
  cond (gLt x4 (M (g + 1) (gIx x1))) (
    gCi (C 8 [.inr (.inr (g + 1)), .inl x1, .inl x4] M) (fun M1 r2 =>
    gIf (gInb (((x1 * 3) + x4) - 1) 21) (
    L_X1_removeGreatest_49 C n g x1 x2 x3 (x4 + 1) (gU M1 (g + 2) (gIx (((x1 * 3) + x4) - 1)) r2)))) (
    gIf (gInb x1 7) (
    gIf (gInb x1 7) (
    some (gU M (g + 1) (gIx x1) (gMax ((M (g + 1) (gIx x1)) - 1) 0), some (.inl x3)))))) := by
  rcases hg with rfl | rfl | rfl | rfl | rfl | rfl | rfl | rfl | rfl | rfl | rfl | rfl <;> rfl
set_option maxRecDepth 20000 in
set_option maxHeartbeats 4000000 in
theorem q_X1_removeGreatest (N d : Nat) (g : Nat) (a0 : Int) (M : gM) (hg : g = 8 ∨ g = 11 ∨ g = 22 ∨ g = 25 ∨ g = 28 ∨ g = 31 ∨ g = 34 ∨ g = 37 ∨ g = 40 ∨ g = 43 ∨ g = 47 ∨ g = 50) : gEv N (d + 1) 10 [.inr (.inr (g + 1)), .inl a0] M =
  L_X1_removeGreatest_4 (gEv N d) N g a0 0 1 M := by
  rcases hg with rfl | rfl | rfl | rfl | rfl | rfl | rfl | rfl | rfl | rfl | rfl | rfl <;> rfl
noncomputable def L_X1_fade_17 (C : gCl) (n : Nat) (g : Nat) (x1 : Int) (x2 : Int) (x3 : Int) (x4 : Int) (M : gM) : Option gR := gRun gLay C (fun M v => some (M, v)) gC_X1_fade gH_X1_fade n 17 [some (.inr (.inr (g + 1))), some (.inl x1), some (.inl x2), some (.inl x3), some (.inl x4), none] [] M
set_option maxRecDepth 20000 in
set_option maxHeartbeats 4000000 in
theorem q_X1_fade_17 (C : gCl) (n : Nat) (g : Nat) (x1 : Int) (x2 : Int) (x3 : Int) (x4 : Int) (M : gM) (hg : g = 8 ∨ g = 11 ∨ g = 22 ∨ g = 25 ∨ g = 28 ∨ g = 31 ∨ g = 34 ∨ g = 37 ∨ g = 40 ∨ g = 43 ∨ g = 47 ∨ g = 50) : L_X1_fade_17 C (n + 1) g x1 x2 x3 x4 M =
  cond (gLt x4 x3) (
    gCi (C 8 [.inr (.inr (g + 1)), .inl x1, .inl x4] M) (fun M1 r2 =>
    cond (gLt 0 (r2 - x2)) (
      gCv (C 9 [.inr (.inr (g + 1)), .inl x1, .inl (r2 - x2)] M1) (fun M3 =>
      L_X1_fade_17 C n g x1 x2 x3 (x4 + 1) M3)) (
      L_X1_fade_17 C n g x1 x2 x3 (x4 + 1) M1))) (
    some (M, none)) := by
  rcases hg with rfl | rfl | rfl | rfl | rfl | rfl | rfl | rfl | rfl | rfl | rfl | rfl <;> rfl
set_option maxRecDepth 20000 in
set_option maxHeartbeats 4000000 in
theorem q_X1_fade (N d : Nat) (g : Nat) (a0 : Int) (a1 : Int) (M : gM) (hg : g = 8 ∨ g = 11 ∨ g = 22 ∨ g = 25 ∨ g = 28 ∨ g = 31 ∨ g = 34 ∨ g = 37 ∨ g = 40 ∨ g = 43 ∨ g = 47 ∨ g = 50) : gEv N (d + 1) 11 [.inr (.inr (g + 1)), .inl a0, .inl a1] M =
  gIf (gInb a0 7) (
  gIf (gInb a0 7) (
  L_X1_fade_17 (gEv N d) N g a0 a1 (M (g + 1) (gIx a0)) 0 (gU M (g + 1) (gIx a0) 0))) := by
  rcases hg with rfl | rfl | rfl | rfl | rfl | rfl | rfl | rfl | rfl | rfl | rfl | rfl <;> rfl
noncomputable def L_X1_loadAs_12 (C : gCl) (n : Nat) (g : Nat) (x1 : Int) (x2 : Int) (x3 : Int) (x4 : Int) (x5 : Int) (x6 : Int) (x7 : Int) (M : gM) : Option gR := gRun gLay C (fun M v => some (M, v)) gC_X1_loadAs gH_X1_loadAs n 12 [some (.inr (.inr (g + 1))), some (.inl x1), some (.inl x2), some (.inl x3), some (.inl x4), some (.inl x5), some (.inl x6), some (.inl x7), none] [] M
set_option maxRecDepth 20000 in
set_option maxHeartbeats 4000000 in
theorem q_X1_loadAs_12 (C : gCl) (n : Nat) (g : Nat) (x1 : Int) (x2 : Int) (x3 : Int) (x4 : Int) (x5 : Int) (x6 : Int) (x7 : Int) (M : gM) (hg : g = 8 ∨ g = 11 ∨ g = 22 ∨ g = 25 ∨ g = 28 ∨ g = 31 ∨ g = 34 ∨ g = 37 ∨ g = 40 ∨ g = 43 ∨ g = 47 ∨ g = 50) : L_X1_loadAs_12 C (n + 1) g x1 x2 x3 x4 x5 x6 x7 M =
  gIf (gInb x1 7) (
  cond (gLt x7 (M (g + 1) (gIx x1))) (
    gCi (C 8 [.inr (.inr (g + 1)), .inl x1, .inl x7] M) (fun M1 r2 =>
    gIf (gInb x2 5) (
    cond (gLt 0 (r2 - (x3 * (((List.getD [4, 2, 4, 7, 1] (gIx x2) 0 : Nat) : Int) - 1)))) (
      L_X1_loadAs_12 C n g x1 x2 x3 (x4 + (r2 - (x3 * (((List.getD [4, 2, 4, 7, 1] (gIx x2) 0 : Nat) : Int) - 1)))) (gMax x5 (r2 - (x3 * (((List.getD [4, 2, 4, 7, 1] (gIx x2) 0 : Nat) : Int) - 1)))) (x6 + 1) (x7 + 1) M1) (
      L_X1_loadAs_12 C n g x1 x2 x3 x4 x5 x6 (x7 + 1) M1)))) (
    cond (gEq x2 1) (
      some (M, some (.inl (x4 + x5)))) (
    cond (gEq x2 2) (
      cond (gLt x6 2) (
        some (M, some (.inl x4))) (
        some (M, some (.inl (x4 + 5))))) (
    cond (gEq x2 3) (
      some (M, some (.inl x5))) (
    cond (gEq x2 4) (
      cond (gEq 2 0) none (
      some (M, some (.inl (gDiv x5 2))))) (
      some (M, some (.inl x4)))))))) := by
  rcases hg with rfl | rfl | rfl | rfl | rfl | rfl | rfl | rfl | rfl | rfl | rfl | rfl <;> rfl
set_option maxRecDepth 20000 in
set_option maxHeartbeats 4000000 in
theorem q_X1_loadAs (N d : Nat) (g : Nat) (a0 : Int) (a1 : Int) (a2 : Int) (M : gM) (hg : g = 8 ∨ g = 11 ∨ g = 22 ∨ g = 25 ∨ g = 28 ∨ g = 31 ∨ g = 34 ∨ g = 37 ∨ g = 40 ∨ g = 43 ∨ g = 47 ∨ g = 50) : gEv N (d + 1) 12 [.inr (.inr (g + 1)), .inl a0, .inl a1, .inl a2] M =
  L_X1_loadAs_12 (gEv N d) N g a0 a1 a2 0 0 0 0 M := by
  rcases hg with rfl | rfl | rfl | rfl | rfl | rfl | rfl | rfl | rfl | rfl | rfl | rfl <;> rfl
noncomputable def L_X2_settle_2 (C : gCl) (n : Nat) (x2 : Int) (x3 : Int) (M : gM) : Option gR := gRun gLay C (fun M v => some (M, v)) gC_X2_settle gH_X2_settle n 2 [some (.inr (.inr (65))), some (.inr (.inr (7))), some (.inl x2), some (.inl x3)] [] M
noncomputable def L_X2_settle_42 (C : gCl) (n : Nat) (x2 : Int) (x3 : Int) (M : gM) : Option gR := gRun gLay C (fun M v => some (M, v)) gC_X2_settle gH_X2_settle n 42 [some (.inr (.inr (65))), some (.inr (.inr (7))), some (.inl x2), some (.inl x3)] [] M
set_option maxRecDepth 20000 in
set_option maxHeartbeats 4000000 in
theorem q_X2_settle_2 (C : gCl) (n : Nat) (x2 : Int) (x3 : Int) (M : gM) : L_X2_settle_2 C (n + 1) x2 x3 M =
  cond (gLt x3 (M 6 0)) (
    gCi (C 27 [.inr (.inr (7)), .inl x3, .inl 0] M) (fun M1 r2 =>
    gIf (gInb x3 7) (
    gIf (gInb x3 7) (
    cond (gLt x2 ((gU M1 65 (gIx x3) r2) 65 (gIx x3))) (
      some (gU M1 65 (gIx x3) r2, some (.inl ((-1))))) (
      L_X2_settle_2 C n x2 (x3 + 1) (gU M1 65 (gIx x3) r2)))))) (
    L_X2_settle_42 C n x2 0 M) := rfl
set_option maxRecDepth 20000 in
set_option maxHeartbeats 4000000 in
theorem q_X2_settle_42 (C : gCl) (n : Nat) (x2 : Int) (x3 : Int) (M : gM) : L_X2_settle_42 C (n + 1) x2 x3 M =
  cond (gLt (M 6 0) x3) (
    some (M, some (.inl ((-1))))) (
    gCi (C 14 [.inr (.inr (65)), .inl 0, .inl (M 6 0), .inl 0, .inl x3, .inl x2] M) (fun M1 r2 =>
    cond (gEq r2 0) (
      L_X2_settle_42 C n x2 (x3 + 1) M1) (
      some (M1, some (.inl x3))))) := rfl
set_option maxRecDepth 20000 in
set_option maxHeartbeats 4000000 in
theorem q_X2_settle (N d : Nat) (a1 : Int) (M : gM) : gEv N (d + 1) 13 [.inr (.inr (65)), .inr (.inr (7)), .inl a1] M =
  L_X2_settle_2 (gEv N d) N a1 0 M := rfl
noncomputable def L_X2_settleFrom_16 (C : gCl) (n : Nat) (x1 : Int) (x2 : Int) (x3 : Int) (x4 : Int) (x5 : Int) (x6 : Int) (M : gM) : Option gR := gRun gLay C (fun M v => some (M, v)) gC_X2_settleFrom gH_X2_settleFrom n 16 [some (.inr (.inr (65))), some (.inl x1), some (.inl x2), some (.inl x3), some (.inl x4), some (.inl x5), some (.inl x6), none] [] M
noncomputable def L_X2_settleFrom_46 (C : gCl) (n : Nat) (x1 : Int) (x2 : Int) (x3 : Int) (x4 : Int) (x5 : Int) (x6 : Int) (s0 : Int) (M : gM) : Option gR := gRun gLay C (fun M v => some (M, v)) gC_X2_settleFrom gH_X2_settleFrom n 46 [some (.inr (.inr (65))), some (.inl x1), some (.inl x2), some (.inl x3), some (.inl x4), some (.inl x5), some (.inl x6), none] [.inl s0] M
set_option maxRecDepth 20000 in
set_option maxHeartbeats 4000000 in
theorem q_X2_settleFrom_16 (C : gCl) (n : Nat) (x1 : Int) (x2 : Int) (x3 : Int) (x4 : Int) (x5 : Int) (x6 : Int) (M : gM) : L_X2_settleFrom_16 C (n + 1) x1 x2 x3 x4 x5 x6 M =
  cond (gLt x3 x6) (
    gIf (gB01 0) (some (M, some (.inl 0)))) (
    cond (gLt x6 x4) (
      cond (gLt x6 x3) (
        gIf (gInb x6 7) (
        L_X2_settleFrom_46 C n x1 x2 x3 x4 x5 x6 (M 67 (gIx x6)) M)) (
        L_X2_settleFrom_46 C n x1 x2 x3 x4 x5 x6 0 M)) (
      gIf (gB01 0) (some (M, some (.inl 0))))) := rfl
set_option maxRecDepth 20000 in
set_option maxHeartbeats 4000000 in
theorem q_X2_settleFrom_46 (C : gCl) (n : Nat) (x1 : Int) (x2 : Int) (x3 : Int) (x4 : Int) (x5 : Int) (x6 : Int) (s0 : Int) (M : gM) : L_X2_settleFrom_46 C (n + 1) x1 x2 x3 x4 x5 x6 s0 M =
  gIf (gInb x1 7) (
  cond (gLt x5 (s0 + (M 65 (gIx x1)))) (
    L_X2_settleFrom_16 C n x1 x2 x3 x4 x5 (x6 + 1) M) (
    gIf (gInb x1 7) (
    gIf (gInb x6 7) (
    gIf (gInb x1 7) (
    gCi (C 14 [.inr (.inr (65)), .inl (x1 + 1), .inl x2, .inl (gMax x3 (x6 + 1)), .inl x4, .inl x5] (gU (gU M 67 (gIx x6) (s0 + (M 65 (gIx x1)))) 66 (gIx x1) x6)) (fun M1 r2 =>
    cond (gEq r2 0) (
      gIf (gInb x6 7) (
      L_X2_settleFrom_16 C n x1 x2 x3 x4 x5 (x6 + 1) (gU M1 67 (gIx x6) s0))) (
      gIf (gB01 1) (some (M1, some (.inl 1)))))))))) := rfl
set_option maxRecDepth 20000 in
set_option maxHeartbeats 4000000 in
theorem q_X2_settleFrom (N d : Nat) (a1 : Int) (a2 : Int) (a3 : Int) (a4 : Int) (a5 : Int) (M : gM) : gEv N (d + 1) 14 [.inr (.inr (65)), .inl a1, .inl a2, .inl a3, .inl a4, .inl a5] M =
  cond (gLt a1 a2) (
    cond (gLt a1 7) (
      L_X2_settleFrom_16 (gEv N d) N a1 a2 a3 a4 a5 0 M) (
      gIf (gB01 1) (some (M, some (.inl 1))))) (
    gIf (gB01 1) (some (M, some (.inl 1)))) := rfl
noncomputable def L_X3_learn_12 (C : gCl) (n : Nat) (x1 : Int) (x3 : Int) (M : gM) : Option gR := gRun gLay C (fun M v => some (M, v)) gC_X3_learn gH_X3_learn n 12 [some (.inr (.inr (59))), some (.inl x1), some (.inr (.inr (15))), some (.inl x3)] [] M
noncomputable def L_X3_learn_36 (C : gCl) (n : Nat) (x1 : Int) (x3 : Int) (M : gM) : Option gR := gRun gLay C (fun M v => some (M, v)) gC_X3_learn gH_X3_learn n 36 [some (.inr (.inr (59))), some (.inl x1), some (.inr (.inr (15))), some (.inl x3)] [] M
noncomputable def L_X3_learn_57 (C : gCl) (n : Nat) (x1 : Int) (x3 : Int) (M : gM) : Option gR := gRun gLay C (fun M v => some (M, v)) gC_X3_learn gH_X3_learn n 57 [some (.inr (.inr (59))), some (.inl x1), some (.inr (.inr (15))), some (.inl x3)] [] M
set_option maxRecDepth 20000 in
set_option maxHeartbeats 4000000 in
theorem q_X3_learn_12 (C : gCl) (n : Nat) (x1 : Int) (x3 : Int) (M : gM) : L_X3_learn_12 C (n + 1) x1 x3 M =
  cond (gLt x3 (((49 : Nat) : Int))) (
    gIf (gInb x3 49) (
    L_X3_learn_12 C n x1 (x3 + 1) (gU M 59 (gIx x3) 0))) (
    L_X3_learn_36 C n x1 0 M) := rfl
set_option maxRecDepth 20000 in
set_option maxHeartbeats 4000000 in
theorem q_X3_learn_36 (C : gCl) (n : Nat) (x1 : Int) (x3 : Int) (M : gM) : L_X3_learn_36 C (n + 1) x1 x3 M =
  cond (gLt x3 7) (
    gIf (gInb x3 7) (
    L_X3_learn_36 C n x1 (x3 + 1) (gU M 60 (gIx x3) 0))) (
    L_X3_learn_57 C n x1 0 M) := rfl
set_option maxRecDepth 20000 in
set_option maxHeartbeats 4000000 in
theorem q_X3_learn_57 (C : gCl) (n : Nat) (x1 : Int) (x3 : Int) (M : gM) : L_X3_learn_57 C (n + 1) x1 x3 M =
  cond (gLt x3 (M 14 0)) (
    gIf (gInb x3 12) (
    gIf (gInb x3 12) (
    gIf (gInb (((M 15 (gIx x3)) * 7) + (M 16 (gIx x3))) 49) (
    gIf (gInb (((M 15 (gIx x3)) * 7) + (M 16 (gIx x3))) 49) (
    gIf (gInb x3 12) (
    gIf (gInb ((gU M 59 (gIx (((M 15 (gIx x3)) * 7) + (M 16 (gIx x3)))) ((M 59 (gIx (((M 15 (gIx x3)) * 7) + (M 16 (gIx x3))))) + 1)) 16 (gIx x3)) 7) (
    gIf (gInb x3 12) (
    gIf (gInb ((gU M 59 (gIx (((M 15 (gIx x3)) * 7) + (M 16 (gIx x3)))) ((M 59 (gIx (((M 15 (gIx x3)) * 7) + (M 16 (gIx x3))))) + 1)) 16 (gIx x3)) 7) (
    L_X3_learn_57 C n x1 (x3 + 1) (gU (gU M 59 (gIx (((M 15 (gIx x3)) * 7) + (M 16 (gIx x3)))) ((M 59 (gIx (((M 15 (gIx x3)) * 7) + (M 16 (gIx x3))))) + 1)) 60 (gIx ((gU M 59 (gIx (((M 15 (gIx x3)) * 7) + (M 16 (gIx x3)))) ((M 59 (gIx (((M 15 (gIx x3)) * 7) + (M 16 (gIx x3))))) + 1)) 16 (gIx x3))) (gOr ((gU M 59 (gIx (((M 15 (gIx x3)) * 7) + (M 16 (gIx x3)))) ((M 59 (gIx (((M 15 (gIx x3)) * 7) + (M 16 (gIx x3))))) + 1)) 60 (gIx ((gU M 59 (gIx (((M 15 (gIx x3)) * 7) + (M 16 (gIx x3)))) ((M 59 (gIx (((M 15 (gIx x3)) * 7) + (M 16 (gIx x3))))) + 1)) 16 (gIx x3)))) (gShl 1 ((gU M 59 (gIx (((M 15 (gIx x3)) * 7) + (M 16 (gIx x3)))) ((M 59 (gIx (((M 15 (gIx x3)) * 7) + (M 16 (gIx x3))))) + 1)) 15 (gIx x3)))))))))))))) (
    some (M, none)) := rfl
set_option maxRecDepth 20000 in
set_option maxHeartbeats 4000000 in
theorem q_X3_learn (N d : Nat) (a0 : Int) (M : gM) : gEv N (d + 1) 15 [.inr (.inr (59)), .inl a0, .inr (.inr (15))] M =
  L_X3_learn_12 (gEv N d) N a0 0 (gU M 58 0 (gMin a0 7)) := rfl
noncomputable def L_X3_rank_18 (C : gCl) (n : Nat) (x1 : Int) (x2 : Int) (M : gM) : Option gR := gRun gLay C (fun M v => some (M, v)) gC_X3_rank gH_X3_rank n 18 [some (.inr (.inr (59))), some (.inl x1), some (.inl x2), none] [] M
noncomputable def L_X3_rank_49 (C : gCl) (n : Nat) (x1 : Int) (x2 : Int) (x3 : Int) (M : gM) : Option gR := gRun gLay C (fun M v => some (M, v)) gC_X3_rank gH_X3_rank n 49 [some (.inr (.inr (59))), some (.inl x1), some (.inl x2), some (.inl x3)] [] M
set_option maxRecDepth 20000 in
set_option maxHeartbeats 4000000 in
theorem q_X3_rank_18 (C : gCl) (n : Nat) (x1 : Int) (x2 : Int) (M : gM) : L_X3_rank_18 C (n + 1) x1 x2 M =
  cond (gLt x1 x2) (
    L_X3_rank_49 C n x1 x1 0 M) (
    gCi (C 17 [.inr (.inr (59)), .inl x2] M) (fun M1 r2 =>
    gCi (C 18 [.inr (.inr (59)), .inl x2, .inl r2] M1) (fun M3 r4 =>
    gIf (gInb x2 128) (
    L_X3_rank_18 C n x1 (x2 + 1) (gU M3 61 (gIx x2) r4))))) := rfl
set_option maxRecDepth 20000 in
set_option maxHeartbeats 4000000 in
theorem q_X3_rank_49 (C : gCl) (n : Nat) (x1 : Int) (x2 : Int) (x3 : Int) (M : gM) : L_X3_rank_49 C (n + 1) x1 x2 x3 M =
  cond (gLt x3 (M 58 0)) (
    gCi (C 17 [.inr (.inr (59)), .inl x2] M) (fun M1 r2 =>
    gIf (gInb x3 7) (
    gIf (gInb x3 7) (
    L_X3_rank_49 C n x1 (gAnd x2 (gXor (gShl 1 ((gU M1 63 (gIx x3) r2) 63 (gIx x3))) ((-1)))) (x3 + 1) (gU M1 63 (gIx x3) r2))))) (
    gIf (gInb x1 128) (
    some (M, some (.inl (M 61 (gIx x1)))))) := rfl
set_option maxRecDepth 20000 in
set_option maxHeartbeats 4000000 in
theorem q_X3_rank (N d : Nat)  (M : gM) : gEv N (d + 1) 16 [.inr (.inr (59))] M =
  gIf (gInb 0 128) (
  L_X3_rank_18 (gEv N d) N ((gShl 1 (M 58 0)) - 1) 1 (gU M 61 (gIx 0) 0)) := rfl
noncomputable def L_X3_bestFirst_4 (C : gCl) (n : Nat) (x1 : Int) (x2 : Int) (x3 : Int) (M : gM) : Option gR := gRun gLay C (fun M v => some (M, v)) gC_X3_bestFirst gH_X3_bestFirst n 4 [some (.inr (.inr (59))), some (.inl x1), some (.inl x2), some (.inl x3), none] [] M
noncomputable def L_X3_bestFirst_26 (C : gCl) (n : Nat) (x1 : Int) (x2 : Int) (x3 : Int) (s0 : Int) (M : gM) : Option gR := gRun gLay C (fun M v => some (M, v)) gC_X3_bestFirst gH_X3_bestFirst n 26 [some (.inr (.inr (59))), some (.inl x1), some (.inl x2), some (.inl x3), none] [.inl s0] M
set_option maxRecDepth 20000 in
set_option maxHeartbeats 4000000 in
theorem q_X3_bestFirst_4 (C : gCl) (n : Nat) (x1 : Int) (x2 : Int) (x3 : Int) (M : gM) : L_X3_bestFirst_4 C (n + 1) x1 x2 x3 M =
  cond (gLt x3 (M 58 0)) (
    cond (gEq (gAnd (gShr x1 x3) 1) 1) (
      L_X3_bestFirst_26 C n x1 x2 x3 1 M) (
      L_X3_bestFirst_26 C n x1 x2 x3 0 M)) (
    some (M, some (.inl (gMax x2 0)))) := rfl
set_option maxRecDepth 20000 in
set_option maxHeartbeats 4000000 in
theorem q_X3_bestFirst_26 (C : gCl) (n : Nat) (x1 : Int) (x2 : Int) (x3 : Int) (s0 : Int) (M : gM) : L_X3_bestFirst_26 C (n + 1) x1 x2 x3 s0 M =
  cond (gEq s0 0) (
    L_X3_bestFirst_4 C n x1 x2 (x3 + 1) M) (
    cond (gEq x2 ((-1))) (
      L_X3_bestFirst_4 C n x1 x3 (x3 + 1) M) (
      gCi (C 18 [.inr (.inr (59)), .inl x1, .inl x3] M) (fun M1 r2 =>
      gCi (C 18 [.inr (.inr (59)), .inl x1, .inl x2] M1) (fun M3 r4 =>
      cond (gLt r2 r4) (
        L_X3_bestFirst_4 C n x1 x3 (x3 + 1) M3) (
        L_X3_bestFirst_4 C n x1 x2 (x3 + 1) M3))))) := rfl
set_option maxRecDepth 20000 in
set_option maxHeartbeats 4000000 in
theorem q_X3_bestFirst (N d : Nat) (a0 : Int) (M : gM) : gEv N (d + 1) 17 [.inr (.inr (59)), .inl a0] M =
  L_X3_bestFirst_4 (gEv N d) N a0 ((-1)) 0 M := rfl
noncomputable def L_X3_brokenFrom_19 (C : gCl) (n : Nat) (x1 : Int) (x2 : Int) (x3 : Int) (x4 : Int) (x5 : Int) (M : gM) : Option gR := gRun gLay C (fun M v => some (M, v)) gC_X3_brokenFrom gH_X3_brokenFrom n 19 [some (.inr (.inr (59))), some (.inl x1), some (.inl x2), some (.inl x3), some (.inl x4), some (.inl x5)] [] M
set_option maxRecDepth 20000 in
set_option maxHeartbeats 4000000 in
theorem q_X3_brokenFrom_19 (C : gCl) (n : Nat) (x1 : Int) (x2 : Int) (x3 : Int) (x4 : Int) (x5 : Int) (M : gM) : L_X3_brokenFrom_19 C (n + 1) x1 x2 x3 x4 x5 M =
  cond (gLt x5 (M 58 0)) (
    cond (gEq (gAnd (gShr x3 x5) 1) 1) (
      gIf (gInb ((x5 * 7) + x2) 49) (
      L_X3_brokenFrom_19 C n x1 x2 x3 (x4 + (M 59 (gIx ((x5 * 7) + x2)))) (x5 + 1) M)) (
      L_X3_brokenFrom_19 C n x1 x2 x3 x4 (x5 + 1) M)) (
    some (M, some (.inl x4))) := rfl
set_option maxRecDepth 20000 in
set_option maxHeartbeats 4000000 in
theorem q_X3_brokenFrom (N d : Nat) (a0 : Int) (a1 : Int) (M : gM) : gEv N (d + 1) 18 [.inr (.inr (59)), .inl a0, .inl a1] M =
  gIf (gInb (gAnd a0 (gXor (gShl 1 a1) ((-1)))) 128) (
  L_X3_brokenFrom_19 (gEv N d) N a0 a1 (gAnd a0 (gXor (gShl 1 a1) ((-1)))) (M 61 (gIx (gAnd a0 (gXor (gShl 1 a1) ((-1)))))) 0 M) := rfl
noncomputable def L_X3_countUnbroken_18 (C : gCl) (n : Nat) (x1 : Int) (x2 : Int) (M : gM) : Option gR := gRun gLay C (fun M v => some (M, v)) gC_X3_countUnbroken gH_X3_countUnbroken n 18 [some (.inr (.inr (59))), some (.inl x1), some (.inl x2), none, none] [] M
noncomputable def L_X3_countUnbroken_32 (C : gCl) (n : Nat) (x1 : Int) (x2 : Int) (x3 : Int) (M : gM) : Option gR := gRun gLay C (fun M v => some (M, v)) gC_X3_countUnbroken gH_X3_countUnbroken n 32 [some (.inr (.inr (59))), some (.inl x1), some (.inl x2), some (.inl x3), none] [] M
noncomputable def L_X3_countUnbroken_54 (C : gCl) (n : Nat) (x1 : Int) (x2 : Int) (x3 : Int) (s0 : Int) (M : gM) : Option gR := gRun gLay C (fun M v => some (M, v)) gC_X3_countUnbroken gH_X3_countUnbroken n 54 [some (.inr (.inr (59))), some (.inl x1), some (.inl x2), some (.inl x3), none] [.inl s0] M
set_option maxRecDepth 20000 in
set_option maxHeartbeats 4000000 in
theorem q_X3_countUnbroken_18 (C : gCl) (n : Nat) (x1 : Int) (x2 : Int) (M : gM) : L_X3_countUnbroken_18 C (n + 1) x1 x2 M =
  cond (gLt x1 x2) (
    gIf (gInb x1 128) (
    some (M, some (.inl (M 62 (gIx x1)))))) (
    gIf (gInb x2 128) (
    L_X3_countUnbroken_32 C n x1 x2 0 (gU M 62 (gIx x2) 0))) := rfl
set_option maxRecDepth 20000 in
set_option maxHeartbeats 4000000 in
theorem q_X3_countUnbroken_32 (C : gCl) (n : Nat) (x1 : Int) (x2 : Int) (x3 : Int) (M : gM) : L_X3_countUnbroken_32 C (n + 1) x1 x2 x3 M =
  cond (gLt x3 (M 58 0)) (
    cond (gEq (gAnd (gShr x2 x3) 1) 1) (
      L_X3_countUnbroken_54 C n x1 x2 x3 1 M) (
      L_X3_countUnbroken_54 C n x1 x2 x3 0 M)) (
    L_X3_countUnbroken_18 C n x1 (x2 + 1) M) := rfl
set_option maxRecDepth 20000 in
set_option maxHeartbeats 4000000 in
theorem q_X3_countUnbroken_54 (C : gCl) (n : Nat) (x1 : Int) (x2 : Int) (x3 : Int) (s0 : Int) (M : gM) : L_X3_countUnbroken_54 C (n + 1) x1 x2 x3 s0 M =
  cond (gEq s0 0) (
    L_X3_countUnbroken_32 C n x1 x2 (x3 + 1) M) (
    gIf (gInb x3 7) (
    cond (gEq (gAnd (M 60 (gIx x3)) x2) 0) (
      gIf (gInb x2 128) (
      gIf (gInb (gAnd x2 (gXor (gShl 1 x3) ((-1)))) 128) (
      gIf (gInb x2 128) (
      L_X3_countUnbroken_32 C n x1 x2 (x3 + 1) (gU M 62 (gIx x2) ((M 62 (gIx x2)) + (M 62 (gIx (gAnd x2 (gXor (gShl 1 x3) ((-1)))))))))))) (
      L_X3_countUnbroken_32 C n x1 x2 (x3 + 1) M))) := rfl
set_option maxRecDepth 20000 in
set_option maxHeartbeats 4000000 in
theorem q_X3_countUnbroken (N d : Nat)  (M : gM) : gEv N (d + 1) 19 [.inr (.inr (59))] M =
  gIf (gInb 0 128) (
  L_X3_countUnbroken_18 (gEv N d) N ((gShl 1 (M 58 0)) - 1) 1 (gU M 62 (gIx 0) 1)) := rfl
noncomputable def L_X3_bestQuestion_12 (C : gCl) (n : Nat) (x1 : Int) (x2 : Int) (x3 : Int) (x4 : Int) (M : gM) : Option gR := gRun gLay C (fun M v => some (M, v)) gC_X3_bestQuestion gH_X3_bestQuestion n 12 [some (.inr (.inr (59))), some (.inl x1), some (.inl x2), some (.inl x3), some (.inl x4), none, none, none] [] M
noncomputable def L_X3_bestQuestion_27 (C : gCl) (n : Nat) (x1 : Int) (x2 : Int) (x3 : Int) (x4 : Int) (x5 : Int) (M : gM) : Option gR := gRun gLay C (fun M v => some (M, v)) gC_X3_bestQuestion gH_X3_bestQuestion n 27 [some (.inr (.inr (59))), some (.inl x1), some (.inl x2), some (.inl x3), some (.inl x4), some (.inl x5), none, none] [] M
set_option maxRecDepth 20000 in
set_option maxHeartbeats 4000000 in
theorem q_X3_bestQuestion_12 (C : gCl) (n : Nat) (x1 : Int) (x2 : Int) (x3 : Int) (x4 : Int) (M : gM) : L_X3_bestQuestion_12 C (n + 1) x1 x2 x3 x4 M =
  cond (gLt x4 (M 58 0)) (
    L_X3_bestQuestion_27 C n x1 x2 x3 x4 (x4 + 1) M) (
    some (M, some (.inl x2))) := rfl
set_option maxRecDepth 20000 in
set_option maxHeartbeats 4000000 in
theorem q_X3_bestQuestion_27 (C : gCl) (n : Nat) (x1 : Int) (x2 : Int) (x3 : Int) (x4 : Int) (x5 : Int) (M : gM) : L_X3_bestQuestion_27 C (n + 1) x1 x2 x3 x4 x5 M =
  cond (gLt x5 (M 58 0)) (
    gCi (C 21 [.inr (.inr (59)), .inl x4, .inl x5] M) (fun M1 r2 =>
    cond (gLt (gMax r2 (x1 - r2)) x3) (
      L_X3_bestQuestion_27 C n x1 ((10 * x4) + x5) (gMax r2 (x1 - r2)) x4 (x5 + 1) M1) (
      L_X3_bestQuestion_27 C n x1 x2 x3 x4 (x5 + 1) M1))) (
    L_X3_bestQuestion_12 C n x1 x2 x3 (x4 + 1) M) := rfl
set_option maxRecDepth 20000 in
set_option maxHeartbeats 4000000 in
theorem q_X3_bestQuestion (N d : Nat)  (M : gM) : gEv N (d + 1) 20 [.inr (.inr (59))] M =
  gCi ((gEv N d) 19 [.inr (.inr (59))] M) (fun M1 r2 =>
  L_X3_bestQuestion_12 (gEv N d) N r2 ((-1)) r2 0 M1) := rfl
set_option maxRecDepth 20000 in
set_option maxHeartbeats 4000000 in
theorem q_X3_countUnbrokenWith (N d : Nat) (a0 : Int) (a1 : Int) (M : gM) : gEv N (d + 1) 21 [.inr (.inr (59)), .inl a0, .inl a1] M =
  gIf (gInb a1 7) (
  gIf (gInb a1 7) (
  gCi ((gEv N d) 19 [.inr (.inr (59))] (gU M 60 (gIx a1) (gOr (M 60 (gIx a1)) (gShl 1 a0)))) (fun M1 r2 =>
  gIf (gInb a1 7) (
  some (gU M1 60 (gIx a1) (M 60 (gIx a1)), some (.inl r2)))))) := rfl
set_option maxRecDepth 20000 in
set_option maxHeartbeats 4000000 in
theorem q_X4_become (N d : Nat) (g : Nat) (h : Nat) (M : gM) (hg : g = 14 ∨ g = 17) (hh : h = 14 ∨ h = 17) : gEv N (d + 1) 22 [.inr (.inr (g + 1)), .inr (.inr (h + 1))] M =
  gIf (decide (0 ≤ gW 0 ∧ 0 ≤ gW 0 ∧ 0 ≤ gW 12 ∧ gW 0 + gW 12 ≤ ((12 : Nat) : Int) ∧ gW 0 + gW 12 ≤ ((12 : Nat) : Int))) (
  gIf (decide (0 ≤ gW 0 ∧ 0 ≤ gW 0 ∧ 0 ≤ gW 12 ∧ gW 0 + gW 12 ≤ ((12 : Nat) : Int) ∧ gW 0 + gW 12 ≤ ((12 : Nat) : Int))) (
  some (gCp (gCp (gU M g 0 (M h 0)) (h + 1) (gIx 0) (g + 1) (gIx 0) (gIx 12)) (h + 2) (gIx 0) (g + 2) (gIx 0) (gIx 12), none))) := by
  rcases hg with rfl | rfl <;> rcases hh with rfl | rfl <;> rfl
set_option maxRecDepth 20000 in
set_option maxHeartbeats 4000000 in
theorem q_X4_append (N d : Nat) (g : Nat) (a0 : Int) (a1 : Int) (M : gM) (hg : g = 14 ∨ g = 17) : gEv N (d + 1) 23 [.inr (.inr (g + 1)), .inl a0, .inl a1] M =
  cond (gLt (M g 0) 12) (
    gIf (gInb (M g 0) 12) (
    gIf (gInb (gU M (g + 1) (gIx (M g 0)) a0 g 0) 12) (
    some (gU (gU (gU M (g + 1) (gIx (M g 0)) a0) (g + 2) (gIx (gU M (g + 1) (gIx (M g 0)) a0 g 0)) a1) g 0 ((gU (gU M (g + 1) (gIx (M g 0)) a0) (g + 2) (gIx (gU M (g + 1) (gIx (M g 0)) a0 g 0)) a1 g 0) + 1), none)))) (
    some (M, none)) := by
  rcases hg with rfl | rfl <;> rfl
set_option maxRecDepth 20000 in
set_option maxHeartbeats 4000000 in
theorem q_X5_has (N d : Nat) (a0 : Int) (M : gM) : gEv N (d + 1) 24 [.inr (.inr (7)), .inl a0] M =
  cond (gLt a0 0) (
    gIf (gB01 0) (some (M, some (.inl 0)))) (
    cond (gLt a0 (M 6 0)) (
      gIf (gB01 1) (some (M, some (.inl 1)))) (
      gIf (gB01 0) (some (M, some (.inl 0))))) := rfl
noncomputable def L_X5_tell_36 (C : gCl) (n : Nat) (x1 : Int) (x3 : Int) (x4 : Int) (x5 : Int) (M : gM) : Option gR := gRun gLay C (fun M v => some (M, v)) gC_X5_tell gH_X5_tell n 36 [some (.inr (.inr (7))), some (.inl x1), some (.inr (.inr (6))), some (.inl x3), some (.inl x4), some (.inl x5)] [] M
set_option maxRecDepth 20000 in
set_option maxHeartbeats 4000000 in
theorem q_X5_tell_36 (C : gCl) (n : Nat) (x1 : Int) (x3 : Int) (x4 : Int) (x5 : Int) (M : gM) : L_X5_tell_36 C (n + 1) x1 x3 x4 x5 M =
  cond (gLt x5 x4) (
    gIf (gInb (x3 + x5) 60) (
    gCv (C 9 [.inr (.inr (12)), .inl (M 6 0), .inl (M 5 (gIx (x3 + x5)))] M) (fun M1 =>
    L_X5_tell_36 C n x1 x3 x4 (x5 + 1) M1))) (
    some (gU M 6 0 ((M 6 0) + 1), none)) := rfl
set_option maxRecDepth 20000 in
set_option maxHeartbeats 4000000 in
theorem q_X5_tell (N d : Nat) (a0 : Int) (a2 : Int) (a3 : Int) (M : gM) : gEv N (d + 1) 25 [.inr (.inr (7)), .inl a0, .inr (.inr (6)), .inl a2, .inl a3] M =
  cond (gLt (M 6 0) 7) (
    gIf (gInb (M 6 0) 7) (
    gIf (gInb (gU M 7 (gIx (M 6 0)) a0 6 0) 7) (
    L_X5_tell_36 (gEv N d) N a0 a2 a3 0 (gU (gU M 7 (gIx (M 6 0)) a0) 12 (gIx (gU M 7 (gIx (M 6 0)) a0 6 0)) 0)))) (
    some (M, none)) := rfl
noncomputable def L_X5_passLents_2 (C : gCl) (n : Nat) (x1 : Int) (x2 : Int) (M : gM) : Option gR := gRun gLay C (fun M v => some (M, v)) gC_X5_passLents gH_X5_passLents n 2 [some (.inr (.inr (7))), some (.inl x1), some (.inl x2)] [] M
set_option maxRecDepth 20000 in
set_option maxHeartbeats 4000000 in
theorem q_X5_passLents_2 (C : gCl) (n : Nat) (x1 : Int) (x2 : Int) (M : gM) : L_X5_passLents_2 C (n + 1) x1 x2 M =
  cond (gLt x2 (M 6 0)) (
    gIf (gInb x2 7) (
    gIf (gInb (M 7 (gIx x2)) 5) (
    gCv (C 11 [.inr (.inr (9)), .inl x2, .inl (x1 * (((List.getD [4, 2, 4, 7, 1] (gIx (M 7 (gIx x2))) 0 : Nat) : Int) - 1))] M) (fun M1 =>
    L_X5_passLents_2 C n x1 (x2 + 1) M1)))) (
    some (gU M 8 0 ((M 8 0) + x1), none)) := rfl
set_option maxRecDepth 20000 in
set_option maxHeartbeats 4000000 in
theorem q_X5_passLents (N d : Nat) (a0 : Int) (M : gM) : gEv N (d + 1) 26 [.inr (.inr (7)), .inl a0] M =
  L_X5_passLents_2 (gEv N d) N a0 0 M := rfl
set_option maxRecDepth 20000 in
set_option maxHeartbeats 4000000 in
theorem q_X5_load (N d : Nat) (a0 : Int) (a1 : Int) (M : gM) : gEv N (d + 1) 27 [.inr (.inr (7)), .inl a0, .inl a1] M =
  gIf (gInb a0 7) (
  gCi ((gEv N d) 12 [.inr (.inr (9)), .inl a0, .inl (M 7 (gIx a0)), .inl a1] M) (fun M1 r2 =>
  some (M1, some (.inl r2)))) := rfl
set_option maxRecDepth 20000 in
set_option maxHeartbeats 4000000 in
theorem q_X5_isAhead (N d : Nat) (a0 : Int) (a1 : Int) (a2 : Int) (M : gM) : gEv N (d + 1) 28 [.inr (.inr (7)), .inl a0, .inl a1, .inl a2] M =
  gCi ((gEv N d) 27 [.inr (.inr (7)), .inl a0, .inl a2] M) (fun M1 r2 =>
  gCi ((gEv N d) 27 [.inr (.inr (7)), .inl a1, .inl a2] M1) (fun M3 r4 =>
  cond (gLt 0 r2) (
    cond (gLt r4 r2) (
      gIf (gB01 1) (some (M3, some (.inl 1)))) (
      cond (gEq r2 r4) (
        cond (gLt a0 a1) (
          gIf (gB01 1) (some (M3, some (.inl 1)))) (
          gIf (gB01 0) (some (M3, some (.inl 0))))) (
        gIf (gB01 0) (some (M3, some (.inl 0)))))) (
    gIf (gB01 0) (some (M3, some (.inl 0)))))) := rfl
noncomputable def L_X5_placeOf_17 (C : gCl) (n : Nat) (x1 : Int) (x2 : Int) (x3 : Int) (x4 : Int) (M : gM) : Option gR := gRun gLay C (fun M v => some (M, v)) gC_X5_placeOf gH_X5_placeOf n 17 [some (.inr (.inr (7))), some (.inl x1), some (.inl x2), some (.inl x3), some (.inl x4)] [] M
set_option maxRecDepth 20000 in
set_option maxHeartbeats 4000000 in
theorem q_X5_placeOf_17 (C : gCl) (n : Nat) (x1 : Int) (x2 : Int) (x3 : Int) (x4 : Int) (M : gM) : L_X5_placeOf_17 C (n + 1) x1 x2 x3 x4 M =
  cond (gLt x4 (M 6 0)) (
    cond (gEq x4 x1) (
      L_X5_placeOf_17 C n x1 x2 x3 (x4 + 1) M) (
      gCi (C 28 [.inr (.inr (7)), .inl x4, .inl x1, .inl x2] M) (fun M1 r2 =>
      cond (gEq r2 0) (
        L_X5_placeOf_17 C n x1 x2 x3 (x4 + 1) M1) (
        L_X5_placeOf_17 C n x1 x2 (x3 + 1) (x4 + 1) M1)))) (
    some (M, some (.inl x3))) := rfl
set_option maxRecDepth 20000 in
set_option maxHeartbeats 4000000 in
theorem q_X5_placeOf (N d : Nat) (a0 : Int) (a1 : Int) (M : gM) : gEv N (d + 1) 29 [.inr (.inr (7)), .inl a0, .inl a1] M =
  gCi ((gEv N d) 27 [.inr (.inr (7)), .inl a0, .inl a1] M) (fun M1 r2 =>
  cond (gLt r2 1) (
    some (M1, some (.inl ((-1))))) (
    L_X5_placeOf_17 (gEv N d) N a0 a1 0 0 M1)) := rfl
noncomputable def L_X5_howManyGoIn_4 (C : gCl) (n : Nat) (x1 : Int) (x2 : Int) (M : gM) : Option gR := gRun gLay C (fun M v => some (M, v)) gC_X5_howManyGoIn gH_X5_howManyGoIn n 4 [some (.inr (.inr (7))), some (.inl x1), some (.inl x2)] [] M
set_option maxRecDepth 20000 in
set_option maxHeartbeats 4000000 in
theorem q_X5_howManyGoIn_4 (C : gCl) (n : Nat) (x1 : Int) (x2 : Int) (M : gM) : L_X5_howManyGoIn_4 C (n + 1) x1 x2 M =
  cond (gLt x2 (M 6 0)) (
    gCi (C 27 [.inr (.inr (7)), .inl x2, .inl 0] M) (fun M1 r2 =>
    cond (gLt 0 r2) (
      L_X5_howManyGoIn_4 C n (x1 + 1) (x2 + 1) M1) (
      L_X5_howManyGoIn_4 C n x1 (x2 + 1) M1))) (
    some (M, some (.inl x1))) := rfl
set_option maxRecDepth 20000 in
set_option maxHeartbeats 4000000 in
theorem q_X5_howManyGoIn (N d : Nat)  (M : gM) : gEv N (d + 1) 30 [.inr (.inr (7))] M =
  L_X5_howManyGoIn_4 (gEv N d) N 0 0 M := rfl
noncomputable def L_X5_allLoads_4 (C : gCl) (n : Nat) (x1 : Int) (x2 : Int) (M : gM) : Option gR := gRun gLay C (fun M v => some (M, v)) gC_X5_allLoads gH_X5_allLoads n 4 [some (.inr (.inr (7))), some (.inl x1), some (.inl x2)] [] M
set_option maxRecDepth 20000 in
set_option maxHeartbeats 4000000 in
theorem q_X5_allLoads_4 (C : gCl) (n : Nat) (x1 : Int) (x2 : Int) (M : gM) : L_X5_allLoads_4 C (n + 1) x1 x2 M =
  cond (gLt x2 (M 6 0)) (
    gCi (C 27 [.inr (.inr (7)), .inl x2, .inl 0] M) (fun M1 r2 =>
    L_X5_allLoads_4 C n (x1 + r2) (x2 + 1) M1)) (
    some (M, some (.inl x1))) := rfl
set_option maxRecDepth 20000 in
set_option maxHeartbeats 4000000 in
theorem q_X5_allLoads (N d : Nat)  (M : gM) : gEv N (d + 1) 31 [.inr (.inr (7))] M =
  L_X5_allLoads_4 (gEv N d) N 0 0 M := rfl
noncomputable def L_X5_allGriefs_4 (C : gCl) (n : Nat) (x1 : Int) (x2 : Int) (M : gM) : Option gR := gRun gLay C (fun M v => some (M, v)) gC_X5_allGriefs gH_X5_allGriefs n 4 [some (.inr (.inr (7))), some (.inl x1), some (.inl x2)] [] M
set_option maxRecDepth 20000 in
set_option maxHeartbeats 4000000 in
theorem q_X5_allGriefs_4 (C : gCl) (n : Nat) (x1 : Int) (x2 : Int) (M : gM) : L_X5_allGriefs_4 C (n + 1) x1 x2 M =
  cond (gLt x2 (M 6 0)) (
    gIf (gInb x2 7) (
    L_X5_allGriefs_4 C n (x1 + (M 9 (gIx x2))) (x2 + 1) M)) (
    some (M, some (.inl x1))) := rfl
set_option maxRecDepth 20000 in
set_option maxHeartbeats 4000000 in
theorem q_X5_allGriefs (N d : Nat)  (M : gM) : gEv N (d + 1) 32 [.inr (.inr (7))] M =
  L_X5_allGriefs_4 (gEv N d) N 0 0 M := rfl
set_option maxRecDepth 20000 in
set_option maxHeartbeats 4000000 in
theorem q_X6_append (N d : Nat) (a0 : Int) (a1 : Int) (a2 : Int) (M : gM) : gEv N (d + 1) 33 [.inr (.inr (55)), .inl a0, .inl a1, .inl a2] M =
  cond (gLt (M 54 0) 6) (
    gIf (gInb (M 54 0) 6) (
    gIf (gInb (gU M 55 (gIx (M 54 0)) a0 54 0) 6) (
    gIf (gInb (gU (gU M 55 (gIx (M 54 0)) a0) 56 (gIx (gU M 55 (gIx (M 54 0)) a0 54 0)) a1 54 0) 6) (
    some (gU (gU (gU (gU M 55 (gIx (M 54 0)) a0) 56 (gIx (gU M 55 (gIx (M 54 0)) a0 54 0)) a1) 57 (gIx (gU (gU M 55 (gIx (M 54 0)) a0) 56 (gIx (gU M 55 (gIx (M 54 0)) a0 54 0)) a1 54 0)) a2) 54 0 ((gU (gU (gU M 55 (gIx (M 54 0)) a0) 56 (gIx (gU M 55 (gIx (M 54 0)) a0 54 0)) a1) 57 (gIx (gU (gU M 55 (gIx (M 54 0)) a0) 56 (gIx (gU M 55 (gIx (M 54 0)) a0 54 0)) a1 54 0)) a2 54 0) + 1), none))))) (
    some (M, none)) := rfl
noncomputable def L_X6_possibleKinds_5 (C : gCl) (n : Nat) (x1 : Int) (x3 : Int) (x4 : Int) (M : gM) : Option gR := gRun gLay C (fun M v => some (M, v)) gC_X6_possibleKinds gH_X6_possibleKinds n 5 [some (.inr (.inr (55))), some (.inl x1), some (.inr (.inr (9))), some (.inl x3), some (.inl x4)] [] M
set_option maxRecDepth 20000 in
set_option maxHeartbeats 4000000 in
theorem q_X6_possibleKinds_5 (C : gCl) (n : Nat) (x1 : Int) (x3 : Int) (x4 : Int) (M : gM) : L_X6_possibleKinds_5 C (n + 1) x1 x3 x4 M =
  cond (gLt x4 5) (
    gCi (C 37 [.inr (.inr (55)), .inl x1, .inl x4, .inr (.inr (9))] M) (fun M1 r2 =>
    gCi (C 36 [.inr (.inr (55)), .inl x1] M1) (fun M3 r4 =>
    cond (gEq r2 r4) (
      L_X6_possibleKinds_5 C n x1 (gOr x3 (gShl 1 x4)) (x4 + 1) M3) (
      L_X6_possibleKinds_5 C n x1 x3 (x4 + 1) M3)))) (
    some (M, some (.inl x3))) := rfl
set_option maxRecDepth 20000 in
set_option maxHeartbeats 4000000 in
theorem q_X6_possibleKinds (N d : Nat) (a0 : Int) (M : gM) : gEv N (d + 1) 34 [.inr (.inr (55)), .inl a0, .inr (.inr (9))] M =
  L_X6_possibleKinds_5 (gEv N d) N a0 0 0 M := rfl
noncomputable def L_X6_likeliestKind_5 (C : gCl) (n : Nat) (x1 : Int) (x3 : Int) (x4 : Int) (M : gM) : Option gR := gRun gLay C (fun M v => some (M, v)) gC_X6_likeliestKind gH_X6_likeliestKind n 5 [some (.inr (.inr (55))), some (.inl x1), some (.inr (.inr (9))), some (.inl x3), some (.inl x4)] [] M
set_option maxRecDepth 20000 in
set_option maxHeartbeats 4000000 in
theorem q_X6_likeliestKind_5 (C : gCl) (n : Nat) (x1 : Int) (x3 : Int) (x4 : Int) (M : gM) : L_X6_likeliestKind_5 C (n + 1) x1 x3 x4 M =
  cond (gLt x4 5) (
    gCi (C 37 [.inr (.inr (55)), .inl x1, .inl x4, .inr (.inr (9))] M) (fun M1 r2 =>
    gCi (C 37 [.inr (.inr (55)), .inl x1, .inl x3, .inr (.inr (9))] M1) (fun M3 r4 =>
    cond (gLt r4 r2) (
      L_X6_likeliestKind_5 C n x1 x4 (x4 + 1) M3) (
      L_X6_likeliestKind_5 C n x1 x3 (x4 + 1) M3)))) (
    some (M, some (.inl x3))) := rfl
set_option maxRecDepth 20000 in
set_option maxHeartbeats 4000000 in
theorem q_X6_likeliestKind (N d : Nat) (a0 : Int) (M : gM) : gEv N (d + 1) 35 [.inr (.inr (55)), .inl a0, .inr (.inr (9))] M =
  L_X6_likeliestKind_5 (gEv N d) N a0 0 1 M := rfl
noncomputable def L_X6_howManyOf_4 (C : gCl) (n : Nat) (x1 : Int) (x2 : Int) (x3 : Int) (M : gM) : Option gR := gRun gLay C (fun M v => some (M, v)) gC_X6_howManyOf gH_X6_howManyOf n 4 [some (.inr (.inr (55))), some (.inl x1), some (.inl x2), some (.inl x3)] [] M
set_option maxRecDepth 20000 in
set_option maxHeartbeats 4000000 in
theorem q_X6_howManyOf_4 (C : gCl) (n : Nat) (x1 : Int) (x2 : Int) (x3 : Int) (M : gM) : L_X6_howManyOf_4 C (n + 1) x1 x2 x3 M =
  cond (gLt x3 (M 54 0)) (
    gIf (gInb x3 6) (
    cond (gEq (M 55 (gIx x3)) x1) (
      L_X6_howManyOf_4 C n x1 (x2 + 1) (x3 + 1) M) (
      L_X6_howManyOf_4 C n x1 x2 (x3 + 1) M))) (
    some (M, some (.inl x2))) := rfl
set_option maxRecDepth 20000 in
set_option maxHeartbeats 4000000 in
theorem q_X6_howManyOf (N d : Nat) (a0 : Int) (M : gM) : gEv N (d + 1) 36 [.inr (.inr (55)), .inl a0] M =
  L_X6_howManyOf_4 (gEv N d) N a0 0 0 M := rfl
noncomputable def L_X6_howManySo_6 (C : gCl) (n : Nat) (x1 : Int) (x2 : Int) (x4 : Int) (x5 : Int) (M : gM) : Option gR := gRun gLay C (fun M v => some (M, v)) gC_X6_howManySo gH_X6_howManySo n 6 [some (.inr (.inr (55))), some (.inl x1), some (.inl x2), some (.inr (.inr (9))), some (.inl x4), some (.inl x5)] [] M
set_option maxRecDepth 20000 in
set_option maxHeartbeats 4000000 in
theorem q_X6_howManySo_6 (C : gCl) (n : Nat) (x1 : Int) (x2 : Int) (x4 : Int) (x5 : Int) (M : gM) : L_X6_howManySo_6 C (n + 1) x1 x2 x4 x5 M =
  cond (gLt x5 (M 54 0)) (
    gIf (gInb x5 6) (
    cond (gEq (M 55 (gIx x5)) x1) (
      gIf (gInb x5 6) (
      gCi (C 12 [.inr (.inr (9)), .inl x1, .inl x2, .inl (M 56 (gIx x5))] M) (fun M1 r2 =>
      gCi (C 95 [.inl r2] M1) (fun M3 r4 =>
      gIf (gInb x5 6) (
      cond (gEq r4 (M3 57 (gIx x5))) (
        L_X6_howManySo_6 C n x1 x2 (x4 + 1) (x5 + 1) M3) (
        L_X6_howManySo_6 C n x1 x2 x4 (x5 + 1) M3)))))) (
      L_X6_howManySo_6 C n x1 x2 x4 (x5 + 1) M))) (
    some (M, some (.inl x4))) := rfl
set_option maxRecDepth 20000 in
set_option maxHeartbeats 4000000 in
theorem q_X6_howManySo (N d : Nat) (a0 : Int) (a1 : Int) (M : gM) : gEv N (d + 1) 37 [.inr (.inr (55)), .inl a0, .inl a1, .inr (.inr (9))] M =
  L_X6_howManySo_6 (gEv N d) N a0 a1 0 0 M := rfl
set_option maxRecDepth 20000 in
set_option maxHeartbeats 4000000 in
theorem q_X7_append (N d : Nat) (a0 : Int) (M : gM) : gEv N (d + 1) 38 [.inr (.inr (2)), .inl a0] M =
  cond (gLt (M 1 1) 200) (
    gIf (gInb (M 1 1) 200) (
    some (gU (gU M 2 (gIx (M 1 1)) a0) 1 1 ((gU M 2 (gIx (M 1 1)) a0 1 1) + 1), none))) (
    some (M, none)) := rfl
noncomputable def L_X7_read_20 (C : gCl) (n : Nat) (x1 : Int) (x2 : Int) (M : gM) : Option gR := gRun gLay C (fun M v => some (M, v)) gC_X7_read gH_X7_read n 20 [some (.inr (.inr (2))), some (.inl x1), some (.inl x2)] [] M
set_option maxRecDepth 20000 in
set_option maxHeartbeats 4000000 in
theorem q_X7_read_20 (C : gCl) (n : Nat) (x1 : Int) (x2 : Int) (M : gM) : L_X7_read_20 C (n + 1) x1 x2 M =
  cond (gLt (M 1 2) 20) (
    gCv (C 45 [.inr (.inr (2))] M) (fun M1 =>
    gCi (C 40 [.inr (.inr (2)), .inl (M1 1 2)] M1) (fun M2 r3 =>
    cond (gEq r3 0) (
      some (M2, some (.inl (M2 1 8)))) (
      cond (gLt (gU M2 1 2 ((M2 1 2) + 1) 1 8) (gU M2 1 2 ((M2 1 2) + 1) 1 1)) (
        gIf (gInb (gU M2 1 2 ((M2 1 2) + 1) 1 8) 200) (
        cond (gEq ((gU M2 1 2 ((M2 1 2) + 1)) 2 (gIx (gU M2 1 2 ((M2 1 2) + 1) 1 8))) 59) (
          L_X7_read_20 C n x1 x2 (gU M2 1 2 ((M2 1 2) + 1))) (
          some (gU M2 1 2 ((M2 1 2) + 1), some (.inl (gU M2 1 2 ((M2 1 2) + 1) 1 8)))))) (
        some (gU M2 1 2 ((M2 1 2) + 1), some (.inl ((-1))))))))) (
    some (M, some (.inl (M 1 8)))) := rfl
set_option maxRecDepth 20000 in
set_option maxHeartbeats 4000000 in
theorem q_X7_read (N d : Nat) (a0 : Int) (a1 : Int) (M : gM) : gEv N (d + 1) 39 [.inr (.inr (2)), .inl a0, .inl a1] M =
  L_X7_read_20 (gEv N d) N a0 a1 (gU (gU (gU (gU M 1 6 a0) 1 7 a1) 1 2 0) 1 9 0) := rfl
set_option maxRecDepth 20000 in
set_option maxHeartbeats 4000000 in
theorem q_X7_readClause (N d : Nat) (a0 : Int) (M : gM) : gEv N (d + 1) 40 [.inr (.inr (2)), .inl a0] M =
  gCi ((gEv N d) 48 [.inr (.inr (2))] M) (fun M1 r2 =>
  gIf (gInb a0 20) (
  gIf (gInb a0 20) (
  cond (gEq r2 ((-1))) (
    gIf (gB01 0) (some (gU (gU M1 3 (gIx a0) r2) 4 (gIx a0) 0, some (.inl 0)))) (
    cond (gEq r2 5) (
      gCi ((gEv N d) 41 [.inr (.inr (2))] (gU (gU M1 3 (gIx a0) r2) 4 (gIx a0) 0)) (fun M7 r8 =>
      gIf (gB01 r8) (some (M7, some (.inl r8))))) (
      cond (gEq r2 6) (
        gCi ((gEv N d) 43 [.inr (.inr (2)), .inl a0] (gU (gU M1 3 (gIx a0) r2) 4 (gIx a0) 0)) (fun M5 r6 =>
        gIf (gB01 r6) (some (M5, some (.inl r6))))) (
        gCi ((gEv N d) 42 [.inr (.inr (2)), .inl a0] (gU (gU M1 3 (gIx a0) r2) 4 (gIx a0) 0)) (fun M3 r4 =>
        gIf (gB01 r4) (some (M3, some (.inl r4)))))))))) := rfl
set_option maxRecDepth 20000 in
set_option maxHeartbeats 4000000 in
theorem q_X7_readHouse (N d : Nat)  (M : gM) : gEv N (d + 1) 41 [.inr (.inr (2))] M =
  gCv ((gEv N d) 45 [.inr (.inr (2))] (gU (gU M 1 6 0) 1 7 0)) (fun M1 =>
  gIf (gB01 1) (some (M1, some (.inl 1)))) := rfl
noncomputable def L_X7_readOne_15 (C : gCl) (n : Nat) (x1 : Int) (M : gM) : Option gR := gRun gLay C (fun M v => some (M, v)) gC_X7_readOne gH_X7_readOne n 15 [some (.inr (.inr (2))), some (.inl x1), none] [] M
set_option maxRecDepth 20000 in
set_option maxHeartbeats 4000000 in
theorem q_X7_readOne_15 (C : gCl) (n : Nat) (x1 : Int) (M : gM) : L_X7_readOne_15 C (n + 1) x1 M =
  gIf (gInb x1 20) (
  cond (gLt (M 4 (gIx x1)) 3) (
    cond (gEq (M 1 10) 1) (
      gCi (C 47 [.inr (.inr (2))] M) (fun M1 r2 =>
      gCi (C 91 [.inl r2, .inl 1, .inl 99] M1) (fun M3 r4 =>
      cond (gEq r4 0) (
        gIf (gB01 0) (some (M3, some (.inl 0)))) (
        gCv (C 44 [.inr (.inr (2)), .inl x1, .inl r2] M3) (fun M5 =>
        gCv (C 45 [.inr (.inr (2))] M5) (fun M6 =>
        L_X7_readOne_15 C n x1 M6)))))) (
      gIf (gB01 1) (some (gU M 1 6 ((M 1 6) + 1), some (.inl 1))))) (
    gIf (gB01 1) (some (gU M 1 6 ((M 1 6) + 1), some (.inl 1))))) := rfl
set_option maxRecDepth 20000 in
set_option maxHeartbeats 4000000 in
theorem q_X7_readOne (N d : Nat) (a0 : Int) (M : gM) : gEv N (d + 1) 42 [.inr (.inr (2)), .inl a0] M =
  cond (gLt (M 1 6) 7) (
    gCv ((gEv N d) 45 [.inr (.inr (2))] M) (fun M1 =>
    L_X7_readOne_15 (gEv N d) N a0 M1)) (
    gIf (gB01 0) (some (M, some (.inl 0)))) := rfl
set_option maxRecDepth 20000 in
set_option maxHeartbeats 4000000 in
theorem q_X7_readTwo (N d : Nat) (a0 : Int) (M : gM) : gEv N (d + 1) 43 [.inr (.inr (2)), .inl a0] M =
  cond (gLt (M 1 7) 12) (
    gCv ((gEv N d) 45 [.inr (.inr (2))] M) (fun M1 =>
    gCi ((gEv N d) 47 [.inr (.inr (2))] M1) (fun M2 r3 =>
    gCi ((gEv N d) 91 [.inl r3, .inl 0, .inl ((M2 1 6) - 1)] M2) (fun M4 r5 =>
    cond (gEq r5 0) (
      gIf (gB01 0) (some (M4, some (.inl 0)))) (
      gCv ((gEv N d) 44 [.inr (.inr (2)), .inl a0, .inl r3] M4) (fun M6 =>
      gCv ((gEv N d) 45 [.inr (.inr (2))] M6) (fun M7 =>
      gCi ((gEv N d) 47 [.inr (.inr (2))] M7) (fun M8 r9 =>
      gCi ((gEv N d) 91 [.inl r9, .inl 0, .inl ((M8 1 6) - 1)] M8) (fun M10 r11 =>
      cond (gEq r11 0) (
        gIf (gB01 0) (some (M10, some (.inl 0)))) (
        cond (gEq r9 r3) (
          gIf (gB01 0) (some (M10, some (.inl 0)))) (
          gCv ((gEv N d) 44 [.inr (.inr (2)), .inl a0, .inl r9] M10) (fun M12 =>
          gCv ((gEv N d) 45 [.inr (.inr (2))] M12) (fun M13 =>
          gIf (gB01 1) (some (gU M13 1 7 ((M13 1 7) + 1), some (.inl 1)))))))))))))))) (
    gIf (gB01 0) (some (M, some (.inl 0)))) := rfl
set_option maxRecDepth 20000 in
set_option maxHeartbeats 4000000 in
theorem q_X7_addNumber (N d : Nat) (a0 : Int) (a1 : Int) (M : gM) : gEv N (d + 1) 44 [.inr (.inr (2)), .inl a0, .inl a1] M =
  gIf (gInb a0 20) (
  cond (gLt (M 4 (gIx a0)) 3) (
    gIf (gInb a0 20) (
    gIf (gInb ((a0 * 3) + (M 4 (gIx a0))) 60) (
    gIf (gInb a0 20) (
    gIf (gInb a0 20) (
    some (gU (gU M 5 (gIx ((a0 * 3) + (M 4 (gIx a0)))) a1) 4 (gIx a0) (((gU M 5 (gIx ((a0 * 3) + (M 4 (gIx a0)))) a1) 4 (gIx a0)) + 1), none)))))) (
    some (M, none))) := rfl
noncomputable def L_X7_goOn_8 (C : gCl) (n : Nat)  (M : gM) : Option gR := gRun gLay C (fun M v => some (M, v)) gC_X7_goOn gH_X7_goOn n 8 [some (.inr (.inr (2)))] [] M
noncomputable def L_X7_goOn_46 (C : gCl) (n : Nat)  (M : gM) : Option gR := gRun gLay C (fun M v => some (M, v)) gC_X7_goOn gH_X7_goOn n 46 [some (.inr (.inr (2)))] [] M
noncomputable def L_X7_goOn_97 (C : gCl) (n : Nat)  (M : gM) : Option gR := gRun gLay C (fun M v => some (M, v)) gC_X7_goOn gH_X7_goOn n 97 [some (.inr (.inr (2)))] [] M
set_option maxRecDepth 20000 in
set_option maxHeartbeats 4000000 in
theorem q_X7_goOn_8 (C : gCl) (n : Nat)  (M : gM) : L_X7_goOn_8 C (n + 1)  M =
  cond (gLt (M 1 8) (M 1 1)) (
    gIf (gInb (M 1 8) 200) (
    cond (gEq (M 2 (gIx (M 1 8))) 32) (
      L_X7_goOn_8 C n (gU M 1 8 ((M 1 8) + 1))) (
      L_X7_goOn_46 C n M))) (
    L_X7_goOn_46 C n M) := rfl
set_option maxRecDepth 20000 in
set_option maxHeartbeats 4000000 in
theorem q_X7_goOn_46 (C : gCl) (n : Nat)  (M : gM) : L_X7_goOn_46 C (n + 1)  M =
  cond (gLt (gU (gU M 1 9 (M 1 8)) 1 10 3 1 8) (gU (gU M 1 9 (M 1 8)) 1 10 3 1 1)) (
    gIf (gInb (gU (gU M 1 9 (M 1 8)) 1 10 3 1 8) 200) (
    gCi (C 46 [.inl ((gU (gU M 1 9 (M 1 8)) 1 10 3) 2 (gIx (gU (gU M 1 9 (M 1 8)) 1 10 3 1 8)))] (gU (gU M 1 9 (M 1 8)) 1 10 3)) (fun M1 r2 =>
    L_X7_goOn_97 C n (gU (gU M1 1 10 r2) 1 9 ((gU M1 1 10 r2 1 9) + 1))))) (
    some (gU (gU M 1 9 (M 1 8)) 1 10 3, none)) := rfl
set_option maxRecDepth 20000 in
set_option maxHeartbeats 4000000 in
theorem q_X7_goOn_97 (C : gCl) (n : Nat)  (M : gM) : L_X7_goOn_97 C (n + 1)  M =
  cond (gEq (M 1 10) 2) (
    some (M, none)) (
    cond (gLt (M 1 9) (M 1 1)) (
      gIf (gInb (M 1 9) 200) (
      gCi (C 46 [.inl (M 2 (gIx (M 1 9)))] M) (fun M1 r2 =>
      cond (gEq r2 (M1 1 10)) (
        L_X7_goOn_97 C n (gU M1 1 9 ((M1 1 9) + 1))) (
        some (M1, none))))) (
      some (M, none))) := rfl
set_option maxRecDepth 20000 in
set_option maxHeartbeats 4000000 in
theorem q_X7_goOn (N d : Nat)  (M : gM) : gEv N (d + 1) 45 [.inr (.inr (2))] M =
  L_X7_goOn_8 (gEv N d) N (gU M 1 8 (M 1 9)) := rfl
set_option maxRecDepth 20000 in
set_option maxHeartbeats 4000000 in
theorem q_X7_sortOf (N d : Nat) (a0 : Int) (M : gM) : gEv N (d + 1) 46 [.inl a0] M =
  cond (gLt a0 97) (
    cond (gLt a0 48) (
      some (M, some (.inl 2))) (
      cond (gLt 57 a0) (
        some (M, some (.inl 2))) (
        some (M, some (.inl 1))))) (
    cond (gLt 122 a0) (
      cond (gLt a0 48) (
        some (M, some (.inl 2))) (
        cond (gLt 57 a0) (
          some (M, some (.inl 2))) (
          some (M, some (.inl 1))))) (
      some (M, some (.inl 0)))) := rfl
noncomputable def L_X7_numberHere_30 (C : gCl) (n : Nat) (x1 : Int) (x2 : Int) (M : gM) : Option gR := gRun gLay C (fun M v => some (M, v)) gC_X7_numberHere gH_X7_numberHere n 30 [some (.inr (.inr (2))), some (.inl x1), some (.inl x2)] [] M
set_option maxRecDepth 20000 in
set_option maxHeartbeats 4000000 in
theorem q_X7_numberHere_30 (C : gCl) (n : Nat) (x1 : Int) (x2 : Int) (M : gM) : L_X7_numberHere_30 C (n + 1) x1 x2 M =
  cond (gLt x2 (M 1 9)) (
    gIf (gInb x2 200) (
    L_X7_numberHere_30 C n (((x1 * 10) + (M 2 (gIx x2))) - 48) (x2 + 1) M)) (
    some (M, some (.inl x1))) := rfl
set_option maxRecDepth 20000 in
set_option maxHeartbeats 4000000 in
theorem q_X7_numberHere (N d : Nat)  (M : gM) : gEv N (d + 1) 47 [.inr (.inr (2))] M =
  cond (gEq (M 1 10) 1) (
    cond (gLt 2 ((M 1 9) - (M 1 8))) (
      some (M, some (.inl ((-1))))) (
      L_X7_numberHere_30 (gEv N d) N 0 (M 1 8) M)) (
    some (M, some (.inl ((-1))))) := rfl
noncomputable def L_X7_wordHere_2 (C : gCl) (n : Nat) (x1 : Int) (M : gM) : Option gR := gRun gLay C (fun M v => some (M, v)) gC_X7_wordHere gH_X7_wordHere n 2 [some (.inr (.inr (2))), some (.inl x1)] [] M
set_option maxRecDepth 20000 in
set_option maxHeartbeats 4000000 in
theorem q_X7_wordHere_2 (C : gCl) (n : Nat) (x1 : Int) (M : gM) : L_X7_wordHere_2 C (n + 1) x1 M =
  cond (gLt x1 7) (
    gCr (C 50 [.inl x1] M) (fun M1 r2 =>
    gCi (C 49 [.inr (.inr (2)), .inr (.inr r2)] M1) (fun M3 r4 =>
    cond (gEq r4 0) (
      L_X7_wordHere_2 C n (x1 + 1) M3) (
      some (M3, some (.inl x1)))))) (
    some (M, some (.inl ((-1))))) := rfl
set_option maxRecDepth 20000 in
set_option maxHeartbeats 4000000 in
theorem q_X7_wordHere (N d : Nat)  (M : gM) : gEv N (d + 1) 48 [.inr (.inr (2))] M =
  L_X7_wordHere_2 (gEv N d) N 0 M := rfl
noncomputable def L_X7_isSpelledHere_20 (C : gCl) (n : Nat) (w : Nat) (x2 : Int) (M : gM) : Option gR := gRun gLay C (fun M v => some (M, v)) gC_X7_isSpelledHere gH_X7_isSpelledHere n 20 [some (.inr (.inr (2))), some (.inr (.inr (w + 1))), some (.inl x2)] [] M
set_option maxRecDepth 20000 in
set_option maxHeartbeats 4000000 in
theorem q_X7_isSpelledHere_20 (C : gCl) (n : Nat) (w : Nat) (x2 : Int) (M : gM) (hw : w = 1010 ∨ w = 1011 ∨ w = 1012 ∨ w = 1013 ∨ w = 1014 ∨ w = 1015 ∨ w = 1016) : L_X7_isSpelledHere_20 C (n + 1) w x2 M =
  gCi (C 900 [.inr (.inr (w + 1))] M) (fun M1 r2 =>
  cond (gLt x2 r2) (
    gIf (gInb ((M1 1 8) + x2) 200) (
    gCi (C 901 [.inr (.inr (w + 1)), .inl x2] M1) (fun M3 r4 =>
    cond (gEq (M1 2 (gIx ((M1 1 8) + x2))) r4) (
      L_X7_isSpelledHere_20 C n w (x2 + 1) M3) (
      gIf (gB01 0) (some (M3, some (.inl 0))))))) (
    gIf (gB01 1) (some (M1, some (.inl 1))))) := by
  rcases hw with rfl | rfl | rfl | rfl | rfl | rfl | rfl <;> rfl
set_option maxRecDepth 20000 in
set_option maxHeartbeats 4000000 in
theorem q_X7_isSpelledHere (N d : Nat) (w : Nat) (M : gM) (hw : w = 1010 ∨ w = 1011 ∨ w = 1012 ∨ w = 1013 ∨ w = 1014 ∨ w = 1015 ∨ w = 1016) : gEv N (d + 1) 49 [.inr (.inr (2)), .inr (.inr (w + 1))] M =
  gCi ((gEv N d) 900 [.inr (.inr (w + 1))] M) (fun M1 r2 =>
  cond (gEq ((M 1 9) - (M 1 8)) r2) (
    L_X7_isSpelledHere_20 (gEv N d) N w 0 M1) (
    gIf (gB01 0) (some (M1, some (.inl 0))))) := by
  rcases hw with rfl | rfl | rfl | rfl | rfl | rfl | rfl <;> rfl
set_option maxRecDepth 20000 in
set_option maxHeartbeats 4000000 in
theorem q_X7_spelling (N d : Nat) (a0 : Int) (M : gM) : gEv N (d + 1) 50 [.inl a0] M =
  cond (gEq a0 0) (
    some (M, some (.inr (.inr (1011))))) (
  cond (gEq a0 1) (
    some (M, some (.inr (.inr (1012))))) (
  cond (gEq a0 2) (
    some (M, some (.inr (.inr (1013))))) (
  cond (gEq a0 3) (
    some (M, some (.inr (.inr (1014))))) (
  cond (gEq a0 4) (
    some (M, some (.inr (.inr (1015))))) (
  cond (gEq a0 5) (
    some (M, some (.inr (.inr (1016))))) (
    some (M, some (.inr (.inr (1017)))))))))) := rfl
set_option maxRecDepth 20000 in
set_option maxHeartbeats 4000000 in
theorem q_X8_remember (N d : Nat)  (M : gM) : gEv N (d + 1) 51 [.inr (.inr (21)), .inr (.inr (9))] M =
  cond (gEq 8 0) none (
  gIf (gInb (gU M 20 1 (gRem ((M 20 1) + 1) 8) 20 1) 8) (
  cond (gEq (gU M 20 1 (gRem ((M 20 1) + 1) 8) 20 1) ((7 : Nat) : Int)) (
    gCv ((gEv N d) 7 [.inr (.inr (44)), .inr (.inr (9))] (gU M 20 1 (gRem ((M 20 1) + 1) 8))) (fun M1 =>
    some (gU M1 20 0 (gMin ((M1 20 0) + 1) 8), none))) (
  cond (gEq (gU M 20 1 (gRem ((M 20 1) + 1) 8) 20 1) ((6 : Nat) : Int)) (
    gCv ((gEv N d) 7 [.inr (.inr (41)), .inr (.inr (9))] (gU M 20 1 (gRem ((M 20 1) + 1) 8))) (fun M2 =>
    some (gU M2 20 0 (gMin ((M2 20 0) + 1) 8), none))) (
  cond (gEq (gU M 20 1 (gRem ((M 20 1) + 1) 8) 20 1) ((5 : Nat) : Int)) (
    gCv ((gEv N d) 7 [.inr (.inr (38)), .inr (.inr (9))] (gU M 20 1 (gRem ((M 20 1) + 1) 8))) (fun M3 =>
    some (gU M3 20 0 (gMin ((M3 20 0) + 1) 8), none))) (
  cond (gEq (gU M 20 1 (gRem ((M 20 1) + 1) 8) 20 1) ((4 : Nat) : Int)) (
    gCv ((gEv N d) 7 [.inr (.inr (35)), .inr (.inr (9))] (gU M 20 1 (gRem ((M 20 1) + 1) 8))) (fun M4 =>
    some (gU M4 20 0 (gMin ((M4 20 0) + 1) 8), none))) (
  cond (gEq (gU M 20 1 (gRem ((M 20 1) + 1) 8) 20 1) ((3 : Nat) : Int)) (
    gCv ((gEv N d) 7 [.inr (.inr (32)), .inr (.inr (9))] (gU M 20 1 (gRem ((M 20 1) + 1) 8))) (fun M5 =>
    some (gU M5 20 0 (gMin ((M5 20 0) + 1) 8), none))) (
  cond (gEq (gU M 20 1 (gRem ((M 20 1) + 1) 8) 20 1) ((2 : Nat) : Int)) (
    gCv ((gEv N d) 7 [.inr (.inr (29)), .inr (.inr (9))] (gU M 20 1 (gRem ((M 20 1) + 1) 8))) (fun M6 =>
    some (gU M6 20 0 (gMin ((M6 20 0) + 1) 8), none))) (
  cond (gEq (gU M 20 1 (gRem ((M 20 1) + 1) 8) 20 1) ((1 : Nat) : Int)) (
    gCv ((gEv N d) 7 [.inr (.inr (26)), .inr (.inr (9))] (gU M 20 1 (gRem ((M 20 1) + 1) 8))) (fun M7 =>
    some (gU M7 20 0 (gMin ((M7 20 0) + 1) 8), none))) (
  cond (gEq (gU M 20 1 (gRem ((M 20 1) + 1) 8) 20 1) ((0 : Nat) : Int)) (
    gCv ((gEv N d) 7 [.inr (.inr (23)), .inr (.inr (9))] (gU M 20 1 (gRem ((M 20 1) + 1) 8))) (fun M8 =>
    some (gU M8 20 0 (gMin ((M8 20 0) + 1) 8), none))) (
  none)))))))))) := rfl
set_option maxRecDepth 20000 in
set_option maxHeartbeats 4000000 in
theorem q_X8_restore (N d : Nat)  (M : gM) : gEv N (d + 1) 52 [.inr (.inr (21)), .inr (.inr (9))] M =
  gIf (gInb (M 20 1) 8) (
  cond (gEq (M 20 1) ((7 : Nat) : Int)) (
    gCv ((gEv N d) 7 [.inr (.inr (9)), .inr (.inr (44))] M) (fun M1 =>
    cond (gEq 8 0) none (
    some (gU (gU M1 20 1 (gRem (((M1 20 1) + 8) - 1) 8)) 20 0 (gMax ((gU M1 20 1 (gRem (((M1 20 1) + 8) - 1) 8) 20 0) - 1) 0), none)))) (
  cond (gEq (M 20 1) ((6 : Nat) : Int)) (
    gCv ((gEv N d) 7 [.inr (.inr (9)), .inr (.inr (41))] M) (fun M2 =>
    cond (gEq 8 0) none (
    some (gU (gU M2 20 1 (gRem (((M2 20 1) + 8) - 1) 8)) 20 0 (gMax ((gU M2 20 1 (gRem (((M2 20 1) + 8) - 1) 8) 20 0) - 1) 0), none)))) (
  cond (gEq (M 20 1) ((5 : Nat) : Int)) (
    gCv ((gEv N d) 7 [.inr (.inr (9)), .inr (.inr (38))] M) (fun M3 =>
    cond (gEq 8 0) none (
    some (gU (gU M3 20 1 (gRem (((M3 20 1) + 8) - 1) 8)) 20 0 (gMax ((gU M3 20 1 (gRem (((M3 20 1) + 8) - 1) 8) 20 0) - 1) 0), none)))) (
  cond (gEq (M 20 1) ((4 : Nat) : Int)) (
    gCv ((gEv N d) 7 [.inr (.inr (9)), .inr (.inr (35))] M) (fun M4 =>
    cond (gEq 8 0) none (
    some (gU (gU M4 20 1 (gRem (((M4 20 1) + 8) - 1) 8)) 20 0 (gMax ((gU M4 20 1 (gRem (((M4 20 1) + 8) - 1) 8) 20 0) - 1) 0), none)))) (
  cond (gEq (M 20 1) ((3 : Nat) : Int)) (
    gCv ((gEv N d) 7 [.inr (.inr (9)), .inr (.inr (32))] M) (fun M5 =>
    cond (gEq 8 0) none (
    some (gU (gU M5 20 1 (gRem (((M5 20 1) + 8) - 1) 8)) 20 0 (gMax ((gU M5 20 1 (gRem (((M5 20 1) + 8) - 1) 8) 20 0) - 1) 0), none)))) (
  cond (gEq (M 20 1) ((2 : Nat) : Int)) (
    gCv ((gEv N d) 7 [.inr (.inr (9)), .inr (.inr (29))] M) (fun M6 =>
    cond (gEq 8 0) none (
    some (gU (gU M6 20 1 (gRem (((M6 20 1) + 8) - 1) 8)) 20 0 (gMax ((gU M6 20 1 (gRem (((M6 20 1) + 8) - 1) 8) 20 0) - 1) 0), none)))) (
  cond (gEq (M 20 1) ((1 : Nat) : Int)) (
    gCv ((gEv N d) 7 [.inr (.inr (9)), .inr (.inr (26))] M) (fun M7 =>
    cond (gEq 8 0) none (
    some (gU (gU M7 20 1 (gRem (((M7 20 1) + 8) - 1) 8)) 20 0 (gMax ((gU M7 20 1 (gRem (((M7 20 1) + 8) - 1) 8) 20 0) - 1) 0), none)))) (
  cond (gEq (M 20 1) ((0 : Nat) : Int)) (
    gCv ((gEv N d) 7 [.inr (.inr (9)), .inr (.inr (23))] M) (fun M8 =>
    cond (gEq 8 0) none (
    some (gU (gU M8 20 1 (gRem (((M8 20 1) + 8) - 1) 8)) 20 0 (gMax ((gU M8 20 1 (gRem (((M8 20 1) + 8) - 1) 8) 20 0) - 1) 0), none)))) (
  none))))))))) := rfl
