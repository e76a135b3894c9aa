-- 32: equations (by program)
set_option maxRecDepth 20000 in
set_option maxHeartbeats 4000000 in
theorem q_X10_in (N d : Nat) (a0 : Int) (a1 : Int) (a2 : Int) (M : gM) : gEv N (d + 1) 99 [.inr (.inl a0), .inr (.inl a1), .inr (.inl a2)] M =
  cond (gLt (gLc a0 a1) 0) (
    gIf (gB01 0) (some (M, some (.inl 0)))) (
    cond (gLt 0 (gLc a0 a2)) (
      gIf (gB01 0) (some (M, some (.inl 0)))) (
      gIf (gB01 1) (some (M, some (.inl 1))))) := rfl
set_option maxRecDepth 20000 in
set_option maxHeartbeats 4000000 in
theorem q_X10_write (N d : Nat) (a0 : Int) (M : gM) : gEv N (d + 1) 100 [.inr (.inr (82)), .inl a0] M =
  gCi ((gEv N d) 99 [.inr (.inl (gW a0)), .inr (.inl (((0 : Nat) : Int))), .inr (.inl (((255 : Nat) : Int) - ((0 : Nat) : Int)))] M) (fun M1 r2 =>
  cond (gEq r2 0) (
    some (M1, some (.inl ((-3))))) (
    cond (gEq (M1 81 4) 200) (
      some (M1, some (.inl ((-5))))) (
      gIf (gInb (M1 81 4) 200) (
      some (gU (gU M1 84 (gIx (M1 81 4)) a0) 81 4 ((gU M1 84 (gIx (M1 81 4)) a0 81 4) + 1), some (.inl (gU (gU M1 84 (gIx (M1 81 4)) a0) 81 4 ((gU M1 84 (gIx (M1 81 4)) a0 81 4) + 1) 81 4))))))) := rfl
set_option maxRecDepth 20000 in
set_option maxHeartbeats 4000000 in
theorem q_X10_erase (N d : Nat)  (M : gM) : gEv N (d + 1) 101 [.inr (.inr (82))] M =
  some (gU M 81 4 0, some (.inl (M 81 4))) := rfl
set_option maxRecDepth 20000 in
set_option maxHeartbeats 4000000 in
theorem q_X10_isLetter (N d : Nat) (a0 : Int) (M : gM) : gEv N (d + 1) 102 [.inl a0] M =
  gCi ((gEv N d) 99 [.inr (.inl (gW a0)), .inr (.inl (((97 : Nat) : Int) - ((0 : Nat) : Int))), .inr (.inl (((122 : Nat) : Int) - ((0 : Nat) : Int)))] M) (fun M1 r2 =>
  gIf (gB01 r2) (some (M1, some (.inl r2)))) := rfl
set_option maxRecDepth 20000 in
set_option maxHeartbeats 4000000 in
theorem q_X10_isDigit (N d : Nat) (a0 : Int) (M : gM) : gEv N (d + 1) 103 [.inl a0] M =
  gCi ((gEv N d) 99 [.inr (.inl (gW a0)), .inr (.inl (((48 : Nat) : Int) - ((0 : Nat) : Int))), .inr (.inl (((57 : Nat) : Int) - ((0 : Nat) : Int)))] M) (fun M1 r2 =>
  gIf (gB01 r2) (some (M1, some (.inl r2)))) := rfl
noncomputable def L_X10_nextToken_8 (C : gCl) (n : Nat)  (M : gM) : Option gR := gRun gLay C (fun M v => some (M, v)) gC_X10_nextToken gH_X10_nextToken n 8 [some (.inr (.inr (82)))] [] M
noncomputable def L_X10_nextToken_46 (C : gCl) (n : Nat)  (M : gM) : Option gR := gRun gLay C (fun M v => some (M, v)) gC_X10_nextToken gH_X10_nextToken n 46 [some (.inr (.inr (82)))] [] M
noncomputable def L_X10_nextToken_71 (C : gCl) (n : Nat) (s0 : Int) (M : gM) : Option gR := gRun gLay C (fun M v => some (M, v)) gC_X10_nextToken gH_X10_nextToken n 71 [some (.inr (.inr (82)))] [.inl s0, .inr (.inr (82))] M
noncomputable def L_X10_nextToken_100 (C : gCl) (n : Nat)  (M : gM) : Option gR := gRun gLay C (fun M v => some (M, v)) gC_X10_nextToken gH_X10_nextToken n 100 [some (.inr (.inr (82)))] [] M
noncomputable def L_X10_nextToken_165 (C : gCl) (n : Nat)  (M : gM) : Option gR := gRun gLay C (fun M v => some (M, v)) gC_X10_nextToken gH_X10_nextToken n 165 [some (.inr (.inr (82)))] [] M
set_option maxRecDepth 20000 in
set_option maxHeartbeats 4000000 in
theorem q_X10_nextToken_8 (C : gCl) (n : Nat)  (M : gM) : L_X10_nextToken_8 C (n + 1)  M =
  cond (gLt (M 81 12) (M 81 4)) (
    gIf (gInb (M 81 12) 200) (
    cond (gEq (M 84 (gIx (M 81 12))) 32) (
      L_X10_nextToken_8 C n (gU M 81 12 ((M 81 12) + 1))) (
      L_X10_nextToken_46 C n M))) (
    L_X10_nextToken_46 C n M) := rfl
set_option maxRecDepth 20000 in
set_option maxHeartbeats 4000000 in
theorem q_X10_nextToken_46 (C : gCl) (n : Nat)  (M : gM) : L_X10_nextToken_46 C (n + 1)  M =
  cond (gLt (M 81 12) (M 81 4)) (
    L_X10_nextToken_71 C n ((M 81 12) + 1) M) (
    L_X10_nextToken_71 C n (M 81 12) M) := rfl
set_option maxRecDepth 20000 in
set_option maxHeartbeats 4000000 in
theorem q_X10_nextToken_71 (C : gCl) (n : Nat) (s0 : Int) (M : gM) : L_X10_nextToken_71 C (n + 1) s0 M =
  cond (gLt (gU M 81 13 s0 81 12) (gU M 81 13 s0 81 4)) (
    gIf (gInb (gU M 81 13 s0 81 12) 200) (
    gCi (C 102 [.inl ((gU M 81 13 s0) 84 (gIx (gU M 81 13 s0 81 12)))] (gU M 81 13 s0)) (fun M3 r4 =>
    cond (gEq r4 0) (
      cond (gLt (M3 81 12) (M3 81 4)) (
        gIf (gInb (M3 81 12) 200) (
        gCi (C 103 [.inl (M3 84 (gIx (M3 81 12)))] M3) (fun M5 r6 =>
        cond (gEq r6 0) (
          some (M5, none)) (
          L_X10_nextToken_165 C n M5)))) (
        some (M3, none))) (
      L_X10_nextToken_100 C n M3)))) (
    cond (gLt (gU M 81 13 s0 81 12) (gU M 81 13 s0 81 4)) (
      gIf (gInb (gU M 81 13 s0 81 12) 200) (
      gCi (C 103 [.inl ((gU M 81 13 s0) 84 (gIx (gU M 81 13 s0 81 12)))] (gU M 81 13 s0)) (fun M1 r2 =>
      cond (gEq r2 0) (
        some (M1, none)) (
        L_X10_nextToken_165 C n M1)))) (
      some (gU M 81 13 s0, none))) := rfl
set_option maxRecDepth 20000 in
set_option maxHeartbeats 4000000 in
theorem q_X10_nextToken_100 (C : gCl) (n : Nat)  (M : gM) : L_X10_nextToken_100 C (n + 1)  M =
  cond (gLt (M 81 13) (M 81 4)) (
    gIf (gInb (M 81 13) 200) (
    gCi (C 102 [.inl (M 84 (gIx (M 81 13)))] M) (fun M1 r2 =>
    cond (gEq r2 0) (
      some (M1, none)) (
      L_X10_nextToken_100 C n (gU M1 81 13 ((M1 81 13) + 1)))))) (
    some (M, none)) := rfl
set_option maxRecDepth 20000 in
set_option maxHeartbeats 4000000 in
theorem q_X10_nextToken_165 (C : gCl) (n : Nat)  (M : gM) : L_X10_nextToken_165 C (n + 1)  M =
  cond (gLt (M 81 13) (M 81 4)) (
    gIf (gInb (M 81 13) 200) (
    gCi (C 103 [.inl (M 84 (gIx (M 81 13)))] M) (fun M1 r2 =>
    cond (gEq r2 0) (
      some (M1, none)) (
      L_X10_nextToken_165 C n (gU M1 81 13 ((M1 81 13) + 1)))))) (
    some (M, none)) := rfl
set_option maxRecDepth 20000 in
set_option maxHeartbeats 4000000 in
theorem q_X10_nextToken (N d : Nat)  (M : gM) : gEv N (d + 1) 104 [.inr (.inr (82))] M =
  L_X10_nextToken_8 (gEv N d) N (gU M 81 12 (M 81 13)) := rfl
noncomputable def L_X10_isWord_22 (C : gCl) (n : Nat) (w : Nat) (x2 : Int) (x3 : Int) (M : gM) : Option gR := gRun gLay C (fun M v => some (M, v)) gC_X10_isWord gH_X10_isWord n 22 [some (.inr (.inr (82))), some (.inr (.inr (w + 1))), some (.inl x2), some (.inl x3)] [] M
set_option maxRecDepth 20000 in
set_option maxHeartbeats 4000000 in
theorem q_X10_isWord_22 (C : gCl) (n : Nat) (w : Nat) (x2 : Int) (x3 : Int) (M : gM) (hw : w = 92 ∨ w = 93 ∨ w = 94 ∨ w = 95 ∨ w = 96 ∨ w = 97 ∨ w = 98) : L_X10_isWord_22 C (n + 1) w x2 x3 M =
  cond (gLt x3 ((((gLay w).2.1 : Nat) : Int))) (
    cond (gEq x2 0) (
      gIf (gB01 x2) (some (M, some (.inl x2)))) (
      gIf (gInb ((M 81 12) + x3) 200) (
      gIf (gInb x3 (gLay w).2.1) (
      cond (gEq (M 84 (gIx ((M 81 12) + x3))) (M w (gIx x3))) (
        L_X10_isWord_22 C n w 1 (x3 + 1) M) (
        L_X10_isWord_22 C n w 0 (x3 + 1) M))))) (
    gIf (gB01 x2) (some (M, some (.inl x2)))) := by
  rcases hw with rfl | rfl | rfl | rfl | rfl | rfl | rfl <;> rfl
set_option maxRecDepth 20000 in
set_option maxHeartbeats 4000000 in
theorem q_X10_isWord (N d : Nat) (w : Nat) (M : gM) (hw : w = 92 ∨ w = 93 ∨ w = 94 ∨ w = 95 ∨ w = 96 ∨ w = 97 ∨ w = 98) : gEv N (d + 1) 105 [.inr (.inr (82)), .inr (.inr (w + 1))] M =
  cond (gEq ((M 81 13) - (M 81 12)) ((((gLay w).2.1 : Nat) : Int))) (
    L_X10_isWord_22 (gEv N d) N w 1 0 M) (
    L_X10_isWord_22 (gEv N d) N w 0 0 M) := by
  rcases hw with rfl | rfl | rfl | rfl | rfl | rfl | rfl <;> rfl
set_option maxRecDepth 20000 in
set_option maxHeartbeats 4000000 in
theorem q_X10_number (N d : Nat) (a0 : Int) (a1 : Int) (a2 : Int) (M : gM) : gEv N (d + 1) 106 [.inr (.inr (82)), .inl a0, .inl a1, .inl a2] M =
  cond (gEq (M 81 12) (M 81 4)) (
    gIf (gB01 0) (some (M, some (.inl 0)))) (
    gIf (gInb (M 81 12) 200) (
    gCi ((gEv N d) 103 [.inl (M 84 (gIx (M 81 12)))] M) (fun M1 r2 =>
    cond (gEq r2 0) (
      gIf (gB01 0) (some (M1, some (.inl 0)))) (
      cond (gLt 2 ((M1 81 13) - (M1 81 12))) (
        gIf (gB01 0) (some (M1, some (.inl 0)))) (
        gIf (gInb (M1 81 12) 200) (
        cond (gEq ((M1 81 13) - (M1 81 12)) 2) (
          gIf (gInb ((M1 81 12) + 1) 200) (
          gCi ((gEv N d) 99 [.inr (.inl (gW (((10 * ((M1 84 (gIx (M1 81 12))) - 48)) + (M1 84 (gIx ((M1 81 12) + 1)))) - 48))), .inr (.inl (gW a1)), .inr (.inl (gW a2))] M1) (fun M6 r7 =>
          cond (gEq r7 0) (
            gIf (gB01 r7) (some (M6, some (.inl r7)))) (
            gIf (gInb a0 3) (
            gCv ((gEv N d) 104 [.inr (.inr (82))] (gU M6 91 (gIx a0) (((10 * ((M1 84 (gIx (M1 81 12))) - 48)) + (M1 84 (gIx ((M1 81 12) + 1)))) - 48))) (fun M8 =>
            gIf (gB01 r7) (some (M8, some (.inl r7))))))))) (
          gCi ((gEv N d) 99 [.inr (.inl (gW ((M1 84 (gIx (M1 81 12))) - 48))), .inr (.inl (gW a1)), .inr (.inl (gW a2))] M1) (fun M3 r4 =>
          cond (gEq r4 0) (
            gIf (gB01 r4) (some (M3, some (.inl r4)))) (
            gIf (gInb a0 3) (
            gCv ((gEv N d) 104 [.inr (.inr (82))] (gU M3 91 (gIx a0) ((M1 84 (gIx (M1 81 12))) - 48))) (fun M5 =>
            gIf (gB01 r4) (some (M5, some (.inl r4)))))))))))))) := rfl
set_option maxRecDepth 20000 in
set_option maxHeartbeats 4000000 in
theorem q_X10_kindHere (N d : Nat)  (M : gM) : gEv N (d + 1) 107 [.inr (.inr (82))] M =
  gCi ((gEv N d) 105 [.inr (.inr (82)), .inr (.inr (94))] M) (fun M1 r2 =>
  cond (gEq r2 0) (
    gCi ((gEv N d) 105 [.inr (.inr (82)), .inr (.inr (95))] M1) (fun M3 r4 =>
    cond (gEq r4 0) (
      gCi ((gEv N d) 105 [.inr (.inr (82)), .inr (.inr (96))] M3) (fun M5 r6 =>
      cond (gEq r6 0) (
        gCi ((gEv N d) 105 [.inr (.inr (82)), .inr (.inr (97))] M5) (fun M7 r8 =>
        cond (gEq r8 0) (
          gCi ((gEv N d) 105 [.inr (.inr (82)), .inr (.inr (98))] M7) (fun M9 r10 =>
          cond (gEq r10 0) (
            some (M9, some (.inl ((-1))))) (
            some (M9, some (.inl 4))))) (
          some (M7, some (.inl 3))))) (
        some (M5, some (.inl 2))))) (
      some (M3, some (.inl 1))))) (
    some (M1, some (.inl 0)))) := rfl
noncomputable def L_X10_readsPerson_17 (C : gCl) (n : Nat) (x1 : Int) (x2 : Int) (M : gM) : Option gR := gRun gLay C (fun M v => some (M, v)) gC_X10_readsPerson gH_X10_readsPerson n 17 [some (.inr (.inr (82))), some (.inl x1), some (.inl x2), none] [] M
noncomputable def L_X10_readsPerson_67 (C : gCl) (n : Nat) (x1 : Int) (x2 : Int) (M : gM) : Option gR := gRun gLay C (fun M v => some (M, v)) gC_X10_readsPerson gH_X10_readsPerson n 67 [some (.inr (.inr (82))), some (.inl x1), some (.inl x2), none] [] M
noncomputable def L_X10_readsPerson_102 (C : gCl) (n : Nat) (x1 : Int) (x2 : Int) (x3 : Int) (M : gM) : Option gR := gRun gLay C (fun M v => some (M, v)) gC_X10_readsPerson gH_X10_readsPerson n 102 [some (.inr (.inr (82))), some (.inl x1), some (.inl x2), some (.inl x3)] [] M
set_option maxRecDepth 20000 in
set_option maxHeartbeats 4000000 in
theorem q_X10_readsPerson_17 (C : gCl) (n : Nat) (x1 : Int) (x2 : Int) (M : gM) : L_X10_readsPerson_17 C (n + 1) x1 x2 M =
  cond (gLt x2 3) (
    cond (gLt (M 81 12) (M 81 4)) (
      gIf (gInb (M 81 12) 200) (
      gCi (C 103 [.inl (M 84 (gIx (M 81 12)))] M) (fun M1 r2 =>
      cond (gEq r2 0) (
        L_X10_readsPerson_67 C n x1 x2 M1) (
        gCi (C 106 [.inr (.inr (82)), .inl x2, .inl 1, .inl 99] M1) (fun M3 r4 =>
        cond (gEq r4 0) (
          gIf (gB01 0) (some (M3, some (.inl 0)))) (
          L_X10_readsPerson_17 C n x1 (x2 + 1) M3)))))) (
      L_X10_readsPerson_67 C n x1 x2 M)) (
    L_X10_readsPerson_67 C n x1 x2 M) := rfl
set_option maxRecDepth 20000 in
set_option maxHeartbeats 4000000 in
theorem q_X10_readsPerson_67 (C : gCl) (n : Nat) (x1 : Int) (x2 : Int) (M : gM) : L_X10_readsPerson_67 C (n + 1) x1 x2 M =
  cond (gEq (M 81 17) 0) (
    gIf (gB01 1) (some (gU M 81 14 ((M 81 14) + 1), some (.inl 1)))) (
    gIf (gInb (92 + (M 81 14)) 443) (
    gIf (gInb (83 + (gU M 82 (gIx (92 + (M 81 14))) x1 81 14)) 443) (
    L_X10_readsPerson_102 C n x1 x2 0 (gU (gU M 82 (gIx (92 + (M 81 14))) x1) 82 (gIx (83 + (gU M 82 (gIx (92 + (M 81 14))) x1 81 14))) x2)))) := rfl
set_option maxRecDepth 20000 in
set_option maxHeartbeats 4000000 in
theorem q_X10_readsPerson_102 (C : gCl) (n : Nat) (x1 : Int) (x2 : Int) (x3 : Int) (M : gM) : L_X10_readsPerson_102 C (n + 1) x1 x2 x3 M =
  cond (gLt x3 3) (
    cond (gLt x3 x2) (
      gIf (gInb x3 3) (
      gIf (gInb ((62 + (3 * (M 81 14))) + x3) 443) (
      L_X10_readsPerson_102 C n x1 x2 (x3 + 1) (gU M 82 (gIx ((62 + (3 * (M 81 14))) + x3)) (M 91 (gIx x3)))))) (
      gIf (gInb ((62 + (3 * (M 81 14))) + x3) 443) (
      L_X10_readsPerson_102 C n x1 x2 (x3 + 1) (gU M 82 (gIx ((62 + (3 * (M 81 14))) + x3)) 0)))) (
    gIf (gInb 91 443) (
    gIf (gInb 91 443) (
    gIf (gB01 1) (some (gU (gU M 82 (gIx 91) ((M 82 (gIx 91)) + 1)) 81 14 ((gU M 82 (gIx 91) ((M 82 (gIx 91)) + 1) 81 14) + 1), some (.inl 1)))))) := rfl
set_option maxRecDepth 20000 in
set_option maxHeartbeats 4000000 in
theorem q_X10_readsPerson (N d : Nat) (a0 : Int) (M : gM) : gEv N (d + 1) 108 [.inr (.inr (82)), .inl a0] M =
  cond (gEq (M 81 14) 7) (
    gIf (gB01 0) (some (M, some (.inl 0)))) (
    gCv ((gEv N d) 104 [.inr (.inr (82))] M) (fun M1 =>
    L_X10_readsPerson_17 (gEv N d) N a0 0 M1)) := rfl
set_option maxRecDepth 20000 in
set_option maxHeartbeats 4000000 in
theorem q_X10_readsPair (N d : Nat)  (M : gM) : gEv N (d + 1) 109 [.inr (.inr (82))] M =
  cond (gEq (M 81 15) 12) (
    gIf (gB01 0) (some (M, some (.inl 0)))) (
    gCv ((gEv N d) 104 [.inr (.inr (82))] M) (fun M1 =>
    gCi ((gEv N d) 106 [.inr (.inr (82)), .inl 0, .inl 0, .inl ((M1 81 14) - 1)] M1) (fun M2 r3 =>
    cond (gEq r3 0) (
      gIf (gB01 0) (some (M2, some (.inl 0)))) (
      gCi ((gEv N d) 106 [.inr (.inr (82)), .inl 1, .inl 0, .inl ((M2 81 14) - 1)] M2) (fun M4 r5 =>
      cond (gEq r5 0) (
        gIf (gB01 0) (some (M4, some (.inl 0)))) (
        gIf (gInb 0 3) (
        gIf (gInb 1 3) (
        cond (gEq (M4 91 (gIx 0)) (M4 91 (gIx 1))) (
          gIf (gB01 0) (some (gU (gU M4 81 12 (M2 81 12)) 81 13 (M2 81 13), some (.inl 0)))) (
          cond (gEq (M4 81 17) 0) (
            gIf (gB01 1) (some (gU M4 81 15 ((M4 81 15) + 1), some (.inl 1)))) (
            gIf (gInb 0 3) (
            gIf (gInb (100 + (2 * (M4 81 15))) 443) (
            gIf (gInb 1 3) (
            gIf (gInb ((100 + (2 * (gU M4 82 (gIx (100 + (2 * (M4 81 15)))) (M4 91 (gIx 0)) 81 15))) + 1) 443) (
            gIf (gInb 99 443) (
            gIf (gInb 99 443) (
            gIf (gB01 1) (some (gU (gU (gU (gU M4 82 (gIx (100 + (2 * (M4 81 15)))) (M4 91 (gIx 0))) 82 (gIx ((100 + (2 * (gU M4 82 (gIx (100 + (2 * (M4 81 15)))) (M4 91 (gIx 0)) 81 15))) + 1)) ((gU M4 82 (gIx (100 + (2 * (M4 81 15)))) (M4 91 (gIx 0))) 91 (gIx 1))) 82 (gIx 99) (((gU (gU M4 82 (gIx (100 + (2 * (M4 81 15)))) (M4 91 (gIx 0))) 82 (gIx ((100 + (2 * (gU M4 82 (gIx (100 + (2 * (M4 81 15)))) (M4 91 (gIx 0)) 81 15))) + 1)) ((gU M4 82 (gIx (100 + (2 * (M4 81 15)))) (M4 91 (gIx 0))) 91 (gIx 1))) 82 (gIx 99)) + 1)) 81 15 ((gU (gU (gU M4 82 (gIx (100 + (2 * (M4 81 15)))) (M4 91 (gIx 0))) 82 (gIx ((100 + (2 * (gU M4 82 (gIx (100 + (2 * (M4 81 15)))) (M4 91 (gIx 0)) 81 15))) + 1)) ((gU M4 82 (gIx (100 + (2 * (M4 81 15)))) (M4 91 (gIx 0))) 91 (gIx 1))) 82 (gIx 99) (((gU (gU M4 82 (gIx (100 + (2 * (M4 81 15)))) (M4 91 (gIx 0))) 82 (gIx ((100 + (2 * (gU M4 82 (gIx (100 + (2 * (M4 81 15)))) (M4 91 (gIx 0)) 81 15))) + 1)) ((gU M4 82 (gIx (100 + (2 * (M4 81 15)))) (M4 91 (gIx 0))) 91 (gIx 1))) 82 (gIx 99)) + 1) 81 15) + 1), some (.inl 1))))))))))))))))))) := rfl
noncomputable def L_X10_readsHouse_16 (C : gCl) (n : Nat) (x1 : Int) (M : gM) : Option gR := gRun gLay C (fun M v => some (M, v)) gC_X10_readsHouse gH_X10_readsHouse n 16 [some (.inr (.inr (82))), some (.inl x1)] [] M
set_option maxRecDepth 20000 in
set_option maxHeartbeats 4000000 in
theorem q_X10_readsHouse_16 (C : gCl) (n : Nat) (x1 : Int) (M : gM) : L_X10_readsHouse_16 C (n + 1) x1 M =
  cond (gLt x1 62) (
    cond (gEq (M 81 17) 0) (
      gIf (gB01 1) (some (M, some (.inl 1)))) (
      gIf (gInb (62 + x1) 443) (
      L_X10_readsHouse_16 C n (x1 + 1) (gU M 82 (gIx (62 + x1)) 0)))) (
    gIf (gB01 1) (some (M, some (.inl 1)))) := rfl
set_option maxRecDepth 20000 in
set_option maxHeartbeats 4000000 in
theorem q_X10_readsHouse (N d : Nat)  (M : gM) : gEv N (d + 1) 110 [.inr (.inr (82))] M =
  gCv ((gEv N d) 104 [.inr (.inr (82))] M) (fun M1 =>
  L_X10_readsHouse_16 (gEv N d) N 0 (gU (gU M1 81 14 0) 81 15 0)) := rfl
set_option maxRecDepth 20000 in
set_option maxHeartbeats 4000000 in
theorem q_X10_readsClause (N d : Nat)  (M : gM) : gEv N (d + 1) 111 [.inr (.inr (82))] M =
  gCi ((gEv N d) 107 [.inr (.inr (82))] M) (fun M1 r2 =>
  cond (gEq r2 ((-1))) (
    gCi ((gEv N d) 105 [.inr (.inr (82)), .inr (.inr (93))] M1) (fun M3 r4 =>
    cond (gEq r4 0) (
      gCi ((gEv N d) 105 [.inr (.inr (82)), .inr (.inr (99))] M3) (fun M5 r6 =>
      cond (gEq r6 0) (
        gIf (gB01 0) (some (M5, some (.inl 0)))) (
        gCi ((gEv N d) 109 [.inr (.inr (82))] M5) (fun M7 r8 =>
        cond (gEq r8 0) (
          gIf (gB01 0) (some (M7, some (.inl 0)))) (
          gIf (gB01 1) (some (M7, some (.inl 1)))))))) (
      gCi ((gEv N d) 110 [.inr (.inr (82))] M3) (fun M9 r10 =>
      gIf (gB01 r10) (some (M9, some (.inl r10))))))) (
    gCi ((gEv N d) 107 [.inr (.inr (82))] M1) (fun M11 r12 =>
    gCi ((gEv N d) 108 [.inr (.inr (82)), .inl r12] M11) (fun M13 r14 =>
    gIf (gB01 r14) (some (M13, some (.inl r14))))))) := rfl
noncomputable def L_X10_reads_46 (C : gCl) (n : Nat) (x1 : Int) (x2 : Int) (M : gM) : Option gR := gRun gLay C (fun M v => some (M, v)) gC_X10_reads gH_X10_reads n 46 [some (.inr (.inr (82))), some (.inl x1), some (.inl x2)] [] M
set_option maxRecDepth 20000 in
set_option maxHeartbeats 4000000 in
theorem q_X10_reads_46 (C : gCl) (n : Nat) (x1 : Int) (x2 : Int) (M : gM) : L_X10_reads_46 C (n + 1) x1 x2 M =
  cond (gEq x2 0) (
    gIf (gB01 x2) (some (M, some (.inl x2)))) (
    cond (gLt (M 81 12) (M 81 4)) (
      cond (gLt (M 81 16) 20) (
        gIf (gInb (M 81 12) 200) (
        cond (gEq (M 84 (gIx (M 81 12))) 59) (
          cond (gEq 1 0) (
            L_X10_reads_46 C n x1 1 M) (
            gCv (C 104 [.inr (.inr (82))] M) (fun M7 =>
            gCi (C 111 [.inr (.inr (82))] M7) (fun M8 r9 =>
            L_X10_reads_46 C n x1 r9 (gU M8 81 16 ((M8 81 16) + 1)))))) (
          cond (gEq 0 0) (
            L_X10_reads_46 C n x1 0 M) (
            gCv (C 104 [.inr (.inr (82))] M) (fun M4 =>
            gCi (C 111 [.inr (.inr (82))] M4) (fun M5 r6 =>
            L_X10_reads_46 C n x1 r6 (gU M5 81 16 ((M5 81 16) + 1)))))))) (
        cond (gEq 0 0) (
          L_X10_reads_46 C n x1 0 M) (
          gCv (C 104 [.inr (.inr (82))] M) (fun M1 =>
          gCi (C 111 [.inr (.inr (82))] M1) (fun M2 r3 =>
          L_X10_reads_46 C n x1 r3 (gU M2 81 16 ((M2 81 16) + 1))))))) (
      gIf (gB01 x2) (some (M, some (.inl x2))))) := rfl
set_option maxRecDepth 20000 in
set_option maxHeartbeats 4000000 in
theorem q_X10_reads (N d : Nat) (a0 : Int) (M : gM) : gEv N (d + 1) 112 [.inr (.inr (82)), .inl a0] M =
  gIf (gB01 a0) (
  gIf (gInb 91 443) (
  gIf (gInb 99 443) (
  gCv ((gEv N d) 104 [.inr (.inr (82))] (gU (gU (gU (gU (gU M 81 17 a0) 81 13 0) 81 16 1) 81 14 ((gU (gU (gU M 81 17 a0) 81 13 0) 81 16 1) 82 (gIx 91))) 81 15 ((gU (gU (gU (gU M 81 17 a0) 81 13 0) 81 16 1) 81 14 ((gU (gU (gU M 81 17 a0) 81 13 0) 81 16 1) 82 (gIx 91))) 82 (gIx 99)))) (fun M1 =>
  gCi ((gEv N d) 111 [.inr (.inr (82))] M1) (fun M2 r3 =>
  L_X10_reads_46 (gEv N d) N a0 r3 M2))))) := rfl
set_option maxRecDepth 20000 in
set_option maxHeartbeats 4000000 in
theorem q_X10_fault (N d : Nat)  (M : gM) : gEv N (d + 1) 113 [.inr (.inr (82))] M =
  gCi ((gEv N d) 112 [.inr (.inr (82)), .inl 0] M) (fun M1 r2 =>
  cond (gEq r2 0) (
    some (M1, some (.inl (M1 81 12)))) (
    some (M1, some (.inl ((-1)))))) := rfl
noncomputable def L_X10_copyRow_3 (C : gCl) (n : Nat) (x1 : Int) (x2 : Int) (x3 : Int) (x4 : Int) (M : gM) : Option gR := gRun gLay C (fun M v => some (M, v)) gC_X10_copyRow gH_X10_copyRow n 3 [some (.inr (.inr (82))), some (.inl x1), some (.inl x2), some (.inl x3), some (.inl x4)] [] M
set_option maxRecDepth 20000 in
set_option maxHeartbeats 4000000 in
theorem q_X10_copyRow_3 (C : gCl) (n : Nat) (x1 : Int) (x2 : Int) (x3 : Int) (x4 : Int) (M : gM) : L_X10_copyRow_3 C (n + 1) x1 x2 x3 x4 M =
  cond (gLt x4 x3) (
    gIf (gInb (x1 + x4) 443) (
    gIf (gInb (x2 + x4) 443) (
    L_X10_copyRow_3 C n x1 x2 x3 (x4 + 1) (gU M 82 (gIx (x2 + x4)) (M 82 (gIx (x1 + x4))))))) (
    some (M, none)) := rfl
set_option maxRecDepth 20000 in
set_option maxHeartbeats 4000000 in
theorem q_X10_copyRow (N d : Nat) (a0 : Int) (a1 : Int) (a2 : Int) (M : gM) : gEv N (d + 1) 114 [.inr (.inr (82)), .inl a0, .inl a1, .inl a2] M =
  L_X10_copyRow_3 (gEv N d) N a0 a1 a2 0 M := rfl
noncomputable def L_X10_house_57 (C : gCl) (n : Nat) (x1 : Int) (M : gM) : Option gR := gRun gLay C (fun M v => some (M, v)) gC_X10_house gH_X10_house n 57 [some (.inr (.inr (82))), some (.inl x1)] [] M
set_option maxRecDepth 20000 in
set_option maxHeartbeats 4000000 in
theorem q_X10_house_57 (C : gCl) (n : Nat) (x1 : Int) (M : gM) : L_X10_house_57 C (n + 1) x1 M =
  cond (gLt x1 4) (
    gIf (gInb x1 4) (
    L_X10_house_57 C n (x1 + 1) (gU M 88 (gIx x1) ((-1))))) (
    some (M, some (.inl (M 81 16)))) := rfl
set_option maxRecDepth 20000 in
set_option maxHeartbeats 4000000 in
theorem q_X10_house (N d : Nat)  (M : gM) : gEv N (d + 1) 115 [.inr (.inr (82))] M =
  gCi ((gEv N d) 112 [.inr (.inr (82)), .inl 0] M) (fun M1 r2 =>
  cond (gEq r2 0) (
    some (M1, some (.inl ((-4))))) (
    gCi ((gEv N d) 112 [.inr (.inr (82)), .inl 1] M1) (fun M3 r4 =>
    gCv ((gEv N d) 114 [.inr (.inr (82)), .inl 62, .inl 0, .inl 62] (gU M3 81 4 0)) (fun M5 =>
    gIf (gInb 0 2) (gIf (gB01 0) (
    gIf (gInb 1 2) (gIf (gB01 0) (
    L_X10_house_57 (gEv N d) N 0 (gU (gU (gU (gU M5 81 1 0) 83 (gIx 0) 0) 83 (gIx 1) 0) 81 5 0))))))))) := rfl
set_option maxRecDepth 20000 in
set_option maxHeartbeats 4000000 in
theorem q_X10_isPerson (N d : Nat) (a0 : Int) (M : gM) : gEv N (d + 1) 116 [.inr (.inr (82)), .inl a0] M =
  gIf (gInb 29 443) (
  gCi ((gEv N d) 99 [.inr (.inl (gW a0)), .inr (.inl (((0 : Nat) : Int))), .inr (.inl (gW ((M 82 (gIx 29)) - 1)))] M) (fun M1 r2 =>
  gIf (gB01 r2) (some (M1, some (.inl r2))))) := rfl
noncomputable def L_X10_sumOf_5 (C : gCl) (n : Nat) (x1 : Int) (x2 : Int) (x3 : Int) (x4 : Int) (M : gM) : Option gR := gRun gLay C (fun M v => some (M, v)) gC_X10_sumOf gH_X10_sumOf n 5 [some (.inr (.inr (82))), some (.inl x1), some (.inl x2), some (.inl x3), some (.inl x4)] [] M
set_option maxRecDepth 20000 in
set_option maxHeartbeats 4000000 in
theorem q_X10_sumOf_5 (C : gCl) (n : Nat) (x1 : Int) (x2 : Int) (x3 : Int) (x4 : Int) (M : gM) : L_X10_sumOf_5 C (n + 1) x1 x2 x3 x4 M =
  gIf (gInb ((x1 + 21) + x2) 443) (
  cond (gLt x4 (M 82 (gIx ((x1 + 21) + x2)))) (
    gIf (gInb (((x1 + 0) + (3 * x2)) + x4) 443) (
    L_X10_sumOf_5 C n x1 x2 (x3 + (M 82 (gIx (((x1 + 0) + (3 * x2)) + x4)))) (x4 + 1) M)) (
    some (M, some (.inl x3)))) := rfl
set_option maxRecDepth 20000 in
set_option maxHeartbeats 4000000 in
theorem q_X10_sumOf (N d : Nat) (a0 : Int) (a1 : Int) (M : gM) : gEv N (d + 1) 117 [.inr (.inr (82)), .inl a0, .inl a1] M =
  L_X10_sumOf_5 (gEv N d) N a0 a1 0 0 M := rfl
noncomputable def L_X10_greatestOf_5 (C : gCl) (n : Nat) (x1 : Int) (x2 : Int) (x3 : Int) (x4 : Int) (M : gM) : Option gR := gRun gLay C (fun M v => some (M, v)) gC_X10_greatestOf gH_X10_greatestOf n 5 [some (.inr (.inr (82))), some (.inl x1), some (.inl x2), some (.inl x3), some (.inl x4), none] [] M
set_option maxRecDepth 20000 in
set_option maxHeartbeats 4000000 in
theorem q_X10_greatestOf_5 (C : gCl) (n : Nat) (x1 : Int) (x2 : Int) (x3 : Int) (x4 : Int) (M : gM) : L_X10_greatestOf_5 C (n + 1) x1 x2 x3 x4 M =
  gIf (gInb ((x1 + 21) + x2) 443) (
  cond (gLt x4 (M 82 (gIx ((x1 + 21) + x2)))) (
    gIf (gInb (((x1 + 0) + (3 * x2)) + x4) 443) (
    cond (gLt x3 (M 82 (gIx (((x1 + 0) + (3 * x2)) + x4)))) (
      L_X10_greatestOf_5 C n x1 x2 (M 82 (gIx (((x1 + 0) + (3 * x2)) + x4))) (x4 + 1) M) (
      L_X10_greatestOf_5 C n x1 x2 x3 (x4 + 1) M))) (
    some (M, some (.inl x3)))) := rfl
set_option maxRecDepth 20000 in
set_option maxHeartbeats 4000000 in
theorem q_X10_greatestOf (N d : Nat) (a0 : Int) (a1 : Int) (M : gM) : gEv N (d + 1) 118 [.inr (.inr (82)), .inl a0, .inl a1] M =
  L_X10_greatestOf_5 (gEv N d) N a0 a1 0 0 M := rfl
set_option maxRecDepth 20000 in
set_option maxHeartbeats 4000000 in
theorem q_X10_loadBy (N d : Nat) (a0 : Int) (a1 : Int) (a2 : Int) (M : gM) : gEv N (d + 1) 119 [.inr (.inr (82)), .inl a0, .inl a1, .inl a2] M =
  cond (gEq a2 1) (
    gCi ((gEv N d) 117 [.inr (.inr (82)), .inl a0, .inl a1] M) (fun M1 r2 =>
    gCi ((gEv N d) 118 [.inr (.inr (82)), .inl a0, .inl a1] M1) (fun M3 r4 =>
    some (M3, some (.inl (r2 + r4)))))) (
  cond (gEq a2 2) (
    gCi ((gEv N d) 117 [.inr (.inr (82)), .inl a0, .inl a1] M) (fun M5 r6 =>
    gIf (gInb ((a0 + 21) + a1) 443) (
    cond (gLt 1 (M5 82 (gIx ((a0 + 21) + a1)))) (
      some (M5, some (.inl (r6 + 5)))) (
      some (M5, some (.inl (r6 + 0))))))) (
  cond (gEq a2 3) (
    gCi ((gEv N d) 118 [.inr (.inr (82)), .inl a0, .inl a1] M) (fun M7 r8 =>
    some (M7, some (.inl r8)))) (
  cond (gEq a2 4) (
    gCi ((gEv N d) 118 [.inr (.inr (82)), .inl a0, .inl a1] M) (fun M9 r10 =>
    cond (gEq 2 0) none (
    some (M9, some (.inl (gDiv r10 2)))))) (
    gCi ((gEv N d) 117 [.inr (.inr (82)), .inl a0, .inl a1] M) (fun M11 r12 =>
    some (M11, some (.inl r12))))))) := rfl
set_option maxRecDepth 20000 in
set_option maxHeartbeats 4000000 in
theorem q_X10_load (N d : Nat) (a0 : Int) (a1 : Int) (M : gM) : gEv N (d + 1) 120 [.inr (.inr (82)), .inl a0, .inl a1] M =
  gIf (gInb (30 + a1) 443) (
  gCi ((gEv N d) 119 [.inr (.inr (82)), .inl a0, .inl a1, .inl (M 82 (gIx (30 + a1)))] M) (fun M1 r2 =>
  some (M1, some (.inl r2)))) := rfl
set_option maxRecDepth 20000 in
set_option maxHeartbeats 4000000 in
theorem q_X10_fades (N d : Nat) (a0 : Int) (M : gM) : gEv N (d + 1) 121 [.inl a0] M =
  cond (gEq a0 1) (
    some (M, some (.inl 1))) (
    cond (gEq a0 3) (
      some (M, some (.inl 6))) (
      cond (gEq a0 4) (
        some (M, some (.inl 0))) (
        some (M, some (.inl 3))))) := rfl
set_option maxRecDepth 20000 in
set_option maxHeartbeats 4000000 in
theorem q_X10_stepOf (N d : Nat) (a0 : Int) (M : gM) : gEv N (d + 1) 122 [.inl a0] M =
  cond (gEq 10 0) none (
  cond (gLt 9 (gDiv a0 10)) (
    some (M, some (.inl 9))) (
    cond (gEq 10 0) none (
    some (M, some (.inl (gDiv a0 10)))))) := rfl
noncomputable def L_X10_fade_6 (C : gCl) (n : Nat) (x1 : Int) (x2 : Int) (x3 : Int) (x4 : Int) (x5 : Int) (M : gM) : Option gR := gRun gLay C (fun M v => some (M, v)) gC_X10_fade gH_X10_fade n 6 [some (.inr (.inr (82))), some (.inl x1), some (.inl x2), some (.inl x3), some (.inl x4), some (.inl x5), none] [] M
set_option maxRecDepth 20000 in
set_option maxHeartbeats 4000000 in
theorem q_X10_fade_6 (C : gCl) (n : Nat) (x1 : Int) (x2 : Int) (x3 : Int) (x4 : Int) (x5 : Int) (M : gM) : L_X10_fade_6 C (n + 1) x1 x2 x3 x4 x5 M =
  gIf (gInb ((x1 + 21) + x2) 443) (
  cond (gLt x5 (M 82 (gIx ((x1 + 21) + x2)))) (
    gIf (gInb (((x1 + 0) + (3 * x2)) + x5) 443) (
    cond (gLt 0 ((M 82 (gIx (((x1 + 0) + (3 * x2)) + x5))) - x3)) (
      gIf (gInb (((x1 + 0) + (3 * x2)) + x4) 443) (
      L_X10_fade_6 C n x1 x2 x3 (x4 + 1) (x5 + 1) (gU M 82 (gIx (((x1 + 0) + (3 * x2)) + x4)) ((M 82 (gIx (((x1 + 0) + (3 * x2)) + x5))) - x3)))) (
      L_X10_fade_6 C n x1 x2 x3 x4 (x5 + 1) M))) (
    gIf (gInb ((x1 + 21) + x2) 443) (
    some (gU M 82 (gIx ((x1 + 21) + x2)) x4, none)))) := rfl
set_option maxRecDepth 20000 in
set_option maxHeartbeats 4000000 in
theorem q_X10_fade (N d : Nat) (a0 : Int) (a1 : Int) (a2 : Int) (M : gM) : gEv N (d + 1) 123 [.inr (.inr (82)), .inl a0, .inl a1, .inl a2] M =
  L_X10_fade_6 (gEv N d) N a0 a1 a2 0 0 M := rfl
noncomputable def L_X10_passes_2 (C : gCl) (n : Nat) (x1 : Int) (x2 : Int) (M : gM) : Option gR := gRun gLay C (fun M v => some (M, v)) gC_X10_passes gH_X10_passes n 2 [some (.inr (.inr (82))), some (.inl x1), some (.inl x2)] [] M
set_option maxRecDepth 20000 in
set_option maxHeartbeats 4000000 in
theorem q_X10_passes_2 (C : gCl) (n : Nat) (x1 : Int) (x2 : Int) (M : gM) : L_X10_passes_2 C (n + 1) x1 x2 M =
  gIf (gInb 29 443) (
  cond (gLt x2 (M 82 (gIx 29))) (
    gIf (gInb (30 + x2) 443) (
    gCi (C 121 [.inl (M 82 (gIx (30 + x2)))] M) (fun M1 r2 =>
    gCv (C 123 [.inr (.inr (82)), .inl x1, .inl x2, .inl r2] M1) (fun M3 =>
    L_X10_passes_2 C n x1 (x2 + 1) M3)))) (
    gIf (gInb (x1 + 28) 443) (
    gIf (gInb (x1 + 28) 443) (
    some (gU M 82 (gIx (x1 + 28)) ((M 82 (gIx (x1 + 28))) + 1), none))))) := rfl
set_option maxRecDepth 20000 in
set_option maxHeartbeats 4000000 in
theorem q_X10_passes (N d : Nat) (a0 : Int) (M : gM) : gEv N (d + 1) 124 [.inr (.inr (82)), .inl a0] M =
  L_X10_passes_2 (gEv N d) N a0 0 M := rfl
set_option maxRecDepth 20000 in
set_option maxHeartbeats 4000000 in
theorem q_X10_isAhead (N d : Nat) (a0 : Int) (a1 : Int) (a2 : Int) (M : gM) : gEv N (d + 1) 125 [.inr (.inr (82)), .inl a0, .inl a1, .inl a2] M =
  gCi ((gEv N d) 120 [.inr (.inr (82)), .inl a0, .inl a1] M) (fun M1 r2 =>
  gCi ((gEv N d) 120 [.inr (.inr (82)), .inl a0, .inl a2] M1) (fun M3 r4 =>
  cond (gLt r4 r2) (
    gIf (gB01 1) (some (M3, some (.inl 1)))) (
    cond (gEq r2 r4) (
      cond (gLt 0 r2) (
        cond (gLt a1 a2) (
          gIf (gB01 1) (some (M3, some (.inl 1)))) (
          gIf (gB01 0) (some (M3, some (.inl 0))))) (
        gIf (gB01 0) (some (M3, some (.inl 0))))) (
      gIf (gB01 0) (some (M3, some (.inl 0))))))) := rfl
noncomputable def L_X10_placeOf_16 (C : gCl) (n : Nat) (x1 : Int) (x2 : Int) (x3 : Int) (x4 : Int) (M : gM) : Option gR := gRun gLay C (fun M v => some (M, v)) gC_X10_placeOf gH_X10_placeOf n 16 [some (.inr (.inr (82))), some (.inl x1), some (.inl x2), some (.inl x3), some (.inl x4)] [] M
set_option maxRecDepth 20000 in
set_option maxHeartbeats 4000000 in
theorem q_X10_placeOf_16 (C : gCl) (n : Nat) (x1 : Int) (x2 : Int) (x3 : Int) (x4 : Int) (M : gM) : L_X10_placeOf_16 C (n + 1) x1 x2 x3 x4 M =
  gIf (gInb 29 443) (
  cond (gLt x4 (M 82 (gIx 29))) (
    cond (gEq x4 x2) (
      L_X10_placeOf_16 C n x1 x2 (x3 + 0) (x4 + 1) M) (
      gCi (C 125 [.inr (.inr (82)), .inl x1, .inl x4, .inl x2] M) (fun M1 r2 =>
      cond (gEq r2 0) (
        L_X10_placeOf_16 C n x1 x2 (x3 + 0) (x4 + 1) M1) (
        L_X10_placeOf_16 C n x1 x2 (x3 + 1) (x4 + 1) M1)))) (
    some (M, some (.inl x3)))) := rfl
set_option maxRecDepth 20000 in
set_option maxHeartbeats 4000000 in
theorem q_X10_placeOf (N d : Nat) (a0 : Int) (a1 : Int) (M : gM) : gEv N (d + 1) 126 [.inr (.inr (82)), .inl a0, .inl a1] M =
  gCi ((gEv N d) 120 [.inr (.inr (82)), .inl a0, .inl a1] M) (fun M1 r2 =>
  cond (gEq r2 0) (
    some (M1, some (.inl ((-1))))) (
    L_X10_placeOf_16 (gEv N d) N a0 a1 0 0 M1)) := rfl
set_option maxRecDepth 20000 in
set_option maxHeartbeats 4000000 in
theorem q_X10_person (N d : Nat) (a0 : Int) (a1 : Int) (M : gM) : gEv N (d + 1) 127 [.inr (.inr (82)), .inl a0, .inl a1] M =
  gCi ((gEv N d) 116 [.inr (.inr (82)), .inl a0] M) (fun M1 r2 =>
  cond (gEq r2 0) (
    some (M1, some (.inl ((-2))))) (
    cond (gEq a1 0) (
      gIf (gInb (30 + a0) 443) (
      some (M1, some (.inl (M1 82 (gIx (30 + a0))))))) (
    cond (gEq a1 1) (
      gCi ((gEv N d) 120 [.inr (.inr (82)), .inl 0, .inl a0] M1) (fun M3 r4 =>
      some (M3, some (.inl r4)))) (
    cond (gEq a1 2) (
      gIf (gInb (21 + a0) 443) (
      some (M1, some (.inl (M1 82 (gIx (21 + a0))))))) (
    cond (gEq a1 3) (
      gIf (gInb (30 + a0) 443) (
      gCi ((gEv N d) 121 [.inl (M1 82 (gIx (30 + a0)))] M1) (fun M5 r6 =>
      some (M5, some (.inl r6))))) (
    cond (gEq a1 4) (
      gCi ((gEv N d) 126 [.inr (.inr (82)), .inl 0, .inl a0] M1) (fun M7 r8 =>
      some (M7, some (.inl r8)))) (
      some (M1, some (.inl ((-3))))))))))) := rfl
set_option maxRecDepth 20000 in
set_option maxHeartbeats 4000000 in
theorem q_X10_grief (N d : Nat) (a0 : Int) (a1 : Int) (M : gM) : gEv N (d + 1) 128 [.inr (.inr (82)), .inl a0, .inl a1] M =
  gCi ((gEv N d) 116 [.inr (.inr (82)), .inl a0] M) (fun M1 r2 =>
  cond (gEq r2 0) (
    some (M1, some (.inl ((-2))))) (
    gCi ((gEv N d) 99 [.inr (.inl (gW a1)), .inr (.inl (((0 : Nat) : Int))), .inr (.inl (((2 : Nat) : Int) - ((0 : Nat) : Int)))] M1) (fun M3 r4 =>
    cond (gEq r4 0) (
      some (M3, some (.inl ((-3))))) (
      gIf (gInb (21 + a0) 443) (
      cond (gLt a1 (M3 82 (gIx (21 + a0)))) (
        gIf (gInb ((0 + (3 * a0)) + a1) 443) (
        some (M3, some (.inl (M3 82 (gIx ((0 + (3 * a0)) + a1))))))) (
        some (M3, some (.inl ((-1)))))))))) := rfl
noncomputable def L_X10_as_57 (C : gCl) (n : Nat) (x1 : Int) (x2 : Int) (x3 : Int) (M : gM) : Option gR := gRun gLay C (fun M v => some (M, v)) gC_X10_as gH_X10_as n 57 [some (.inr (.inr (82))), some (.inl x1), some (.inl x2), some (.inl x3), none] [] M
noncomputable def L_X10_as_67 (C : gCl) (n : Nat) (x1 : Int) (x2 : Int) (x3 : Int) (M : gM) : Option gR := gRun gLay C (fun M v => some (M, v)) gC_X10_as gH_X10_as n 67 [some (.inr (.inr (82))), some (.inl x1), some (.inl x2), some (.inl x3), none] [] M
set_option maxRecDepth 20000 in
set_option maxHeartbeats 4000000 in
theorem q_X10_as_57 (C : gCl) (n : Nat) (x1 : Int) (x2 : Int) (x3 : Int) (M : gM) : L_X10_as_57 C (n + 1) x1 x2 x3 M =
  cond (gEq x2 4) (
    cond (gEq x3 4) (
      L_X10_as_67 C n x1 x2 x3 M) (
      cond (gEq 0 0) (
        some (M, some (.inl ((-4))))) (
        gCi (C 120 [.inr (.inr (82)), .inl 0, .inl x1] M) (fun M3 r4 =>
        some (M3, some (.inl r4)))))) (
    cond (gEq 0 0) (
      some (M, some (.inl ((-4))))) (
      gCi (C 120 [.inr (.inr (82)), .inl 0, .inl x1] M) (fun M1 r2 =>
      some (M1, some (.inl r2))))) := rfl
set_option maxRecDepth 20000 in
set_option maxHeartbeats 4000000 in
theorem q_X10_as_67 (C : gCl) (n : Nat) (x1 : Int) (x2 : Int) (x3 : Int) (M : gM) : L_X10_as_67 C (n + 1) x1 x2 x3 M =
  cond (gEq 1 0) (
    some (M, some (.inl ((-4))))) (
    gCi (C 120 [.inr (.inr (82)), .inl 0, .inl x1] M) (fun M1 r2 =>
    some (M1, some (.inl r2)))) := rfl
set_option maxRecDepth 20000 in
set_option maxHeartbeats 4000000 in
theorem q_X10_as (N d : Nat) (a0 : Int) (a1 : Int) (M : gM) : gEv N (d + 1) 129 [.inr (.inr (82)), .inl a0, .inl a1] M =
  gCi ((gEv N d) 116 [.inr (.inr (82)), .inl a0] M) (fun M1 r2 =>
  cond (gEq r2 0) (
    some (M1, some (.inl ((-2))))) (
    gCi ((gEv N d) 99 [.inr (.inl (gW a1)), .inr (.inl (((0 : Nat) : Int))), .inr (.inl (((5 : Nat) : Int) - ((0 : Nat) : Int)))] M1) (fun M3 r4 =>
    cond (gEq r4 0) (
      some (M3, some (.inl ((-3))))) (
      gIf (gInb (30 + a0) 443) (
      cond (gEq a1 0) (
        L_X10_as_67 (gEv N d) N a0 a1 (M3 82 (gIx (30 + a0))) M3) (
        cond (gEq a1 ((M3 82 (gIx (30 + a0))) + 1)) (
          L_X10_as_67 (gEv N d) N a0 a1 (M3 82 (gIx (30 + a0))) M3) (
          cond (gEq a1 1) (
            cond (gLt (M3 82 (gIx (30 + a0))) 3) (
              L_X10_as_67 (gEv N d) N a0 a1 (M3 82 (gIx (30 + a0))) M3) (
              L_X10_as_57 (gEv N d) N a0 a1 (M3 82 (gIx (30 + a0))) M3)) (
            L_X10_as_57 (gEv N d) N a0 a1 (M3 82 (gIx (30 + a0))) M3)))))))) := rfl
set_option maxRecDepth 20000 in
set_option maxHeartbeats 4000000 in
theorem q_X10_areTwo (N d : Nat) (a0 : Int) (a1 : Int) (M : gM) : gEv N (d + 1) 130 [.inr (.inr (82)), .inl a0, .inl a1] M =
  gCi ((gEv N d) 116 [.inr (.inr (82)), .inl a0] M) (fun M1 r2 =>
  cond (gEq r2 0) (
    gIf (gB01 0) (some (M1, some (.inl 0)))) (
    gCi ((gEv N d) 116 [.inr (.inr (82)), .inl a1] M1) (fun M3 r4 =>
    cond (gEq r4 0) (
      gIf (gB01 0) (some (M3, some (.inl 0)))) (
      cond (gEq a0 a1) (
        gIf (gB01 0) (some (M3, some (.inl 0)))) (
        gIf (gB01 1) (some (M3, some (.inl 1)))))))) := rfl
set_option maxRecDepth 20000 in
set_option maxHeartbeats 4000000 in
theorem q_X10_pair (N d : Nat) (a0 : Int) (a1 : Int) (M : gM) : gEv N (d + 1) 131 [.inr (.inr (82)), .inl a0, .inl a1] M =
  gCi ((gEv N d) 130 [.inr (.inr (82)), .inl a0, .inl a1] M) (fun M1 r2 =>
  cond (gEq r2 0) (
    some (M1, some (.inl ((-2))))) (
    gIf (gInb 37 443) (
    cond (gEq (M1 82 (gIx 37)) 12) (
      some (M1, some (.inl ((-5))))) (
      gIf (gInb 37 443) (
      gIf (gInb (38 + (2 * (M1 82 (gIx 37)))) 443) (
      gIf (gInb 37 443) (
      gIf (gInb ((38 + (2 * ((gU M1 82 (gIx (38 + (2 * (M1 82 (gIx 37))))) a0) 82 (gIx 37)))) + 1) 443) (
      gIf (gInb 37 443) (
      gIf (gInb 37 443) (
      gIf (gInb 37 443) (
      some (gU (gU (gU M1 82 (gIx (38 + (2 * (M1 82 (gIx 37))))) a0) 82 (gIx ((38 + (2 * ((gU M1 82 (gIx (38 + (2 * (M1 82 (gIx 37))))) a0) 82 (gIx 37)))) + 1)) a1) 82 (gIx 37) (((gU (gU M1 82 (gIx (38 + (2 * (M1 82 (gIx 37))))) a0) 82 (gIx ((38 + (2 * ((gU M1 82 (gIx (38 + (2 * (M1 82 (gIx 37))))) a0) 82 (gIx 37)))) + 1)) a1) 82 (gIx 37)) + 1), some (.inl ((gU (gU (gU M1 82 (gIx (38 + (2 * (M1 82 (gIx 37))))) a0) 82 (gIx ((38 + (2 * ((gU M1 82 (gIx (38 + (2 * (M1 82 (gIx 37))))) a0) 82 (gIx 37)))) + 1)) a1) 82 (gIx 37) (((gU (gU M1 82 (gIx (38 + (2 * (M1 82 (gIx 37))))) a0) 82 (gIx ((38 + (2 * ((gU M1 82 (gIx (38 + (2 * (M1 82 (gIx 37))))) a0) 82 (gIx 37)))) + 1)) a1) 82 (gIx 37)) + 1)) 82 (gIx 37))))))))))))))) := rfl
set_option maxRecDepth 20000 in
set_option maxHeartbeats 4000000 in
theorem q_X10_unpair (N d : Nat)  (M : gM) : gEv N (d + 1) 132 [.inr (.inr (82))] M =
  gIf (gInb 37 443) (
  gIf (gInb 37 443) (
  some (gU M 82 (gIx 37) 0, some (.inl (M 82 (gIx 37)))))) := rfl
noncomputable def L_X10_keepPast_11 (C : gCl) (n : Nat) (x1 : Int) (M : gM) : Option gR := gRun gLay C (fun M v => some (M, v)) gC_X10_keepPast gH_X10_keepPast n 11 [some (.inr (.inr (82))), some (.inl x1)] [] M
set_option maxRecDepth 20000 in
set_option maxHeartbeats 4000000 in
theorem q_X10_keepPast_11 (C : gCl) (n : Nat) (x1 : Int) (M : gM) : L_X10_keepPast_11 C (n + 1) x1 M =
  cond (gLt x1 203) (
    gIf (gInb (153 + x1) 443) (
    gIf (gInb (124 + x1) 443) (
    L_X10_keepPast_11 C n (x1 + 1) (gU M 82 (gIx (124 + x1)) (M 82 (gIx (153 + x1))))))) (
    gCv (C 114 [.inr (.inr (82)), .inl 0, .inl (124 + (29 * (gU M 81 1 ((M 81 1) - 1) 81 1))), .inl 29] (gU M 81 1 ((M 81 1) - 1))) (fun M1 =>
    some (gU M1 81 1 ((M1 81 1) + 1), none))) := rfl
set_option maxRecDepth 20000 in
set_option maxHeartbeats 4000000 in
theorem q_X10_keepPast (N d : Nat)  (M : gM) : gEv N (d + 1) 133 [.inr (.inr (82))] M =
  cond (gEq (M 81 1) 8) (
    L_X10_keepPast_11 (gEv N d) N 0 M) (
    gCv ((gEv N d) 114 [.inr (.inr (82)), .inl 0, .inl (124 + (29 * (M 81 1))), .inl 29] M) (fun M1 =>
    some (gU M1 81 1 ((M1 81 1) + 1), none))) := rfl
noncomputable def L_X10_lent_39 (C : gCl) (n : Nat) (x1 : Int) (x2 : Int) (M : gM) : Option gR := gRun gLay C (fun M v => some (M, v)) gC_X10_lent gH_X10_lent n 39 [some (.inr (.inr (82))), some (.inl x1), some (.inl x2)] [] M
set_option maxRecDepth 20000 in
set_option maxHeartbeats 4000000 in
theorem q_X10_lent_39 (C : gCl) (n : Nat) (x1 : Int) (x2 : Int) (M : gM) : L_X10_lent_39 C (n + 1) x1 x2 M =
  cond (gLt x2 x1) (
    gCv (C 124 [.inr (.inr (82)), .inl 0] M) (fun M1 =>
    L_X10_lent_39 C n x1 (x2 + 1) M1)) (
    gIf (gInb 28 443) (
    some (M, some (.inl (M 82 (gIx 28)))))) := rfl
set_option maxRecDepth 20000 in
set_option maxHeartbeats 4000000 in
theorem q_X10_lent (N d : Nat) (a0 : Int) (M : gM) : gEv N (d + 1) 134 [.inr (.inr (82)), .inl a0] M =
  gCi ((gEv N d) 99 [.inr (.inl (gW a0)), .inr (.inl (((1 : Nat) : Int))), .inr (.inl (((12 : Nat) : Int) - ((0 : Nat) : Int)))] M) (fun M1 r2 =>
  cond (gEq r2 0) (
    some (M1, some (.inl ((-3))))) (
    gIf (gInb 28 443) (
    cond (gLt 999 ((M1 82 (gIx 28)) + a0)) (
      some (M1, some (.inl ((-5))))) (
      gCv ((gEv N d) 133 [.inr (.inr (82))] M1) (fun M3 =>
      L_X10_lent_39 (gEv N d) N a0 0 M3))))) := rfl
set_option maxRecDepth 20000 in
set_option maxHeartbeats 4000000 in
theorem q_X10_grieve (N d : Nat) (a0 : Int) (a1 : Int) (M : gM) : gEv N (d + 1) 135 [.inr (.inr (82)), .inl a0, .inl a1] M =
  gCi ((gEv N d) 116 [.inr (.inr (82)), .inl a0] M) (fun M1 r2 =>
  cond (gEq r2 0) (
    some (M1, some (.inl ((-2))))) (
    gCi ((gEv N d) 99 [.inr (.inl (gW a1)), .inr (.inl (((1 : Nat) : Int))), .inr (.inl (((99 : Nat) : Int) - ((0 : Nat) : Int)))] M1) (fun M3 r4 =>
    cond (gEq r4 0) (
      some (M3, some (.inl ((-3))))) (
      gIf (gInb (21 + a0) 443) (
      cond (gEq (M3 82 (gIx (21 + a0))) 3) (
        some (M3, some (.inl ((-5))))) (
        gCv ((gEv N d) 133 [.inr (.inr (82))] M3) (fun M5 =>
        gIf (gInb (21 + a0) 443) (
        gIf (gInb ((0 + (3 * a0)) + (M5 82 (gIx (21 + a0)))) 443) (
        gIf (gInb (21 + a0) 443) (
        gIf (gInb (21 + a0) 443) (
        gCi ((gEv N d) 120 [.inr (.inr (82)), .inl 0, .inl a0] (gU (gU M5 82 (gIx ((0 + (3 * a0)) + (M5 82 (gIx (21 + a0))))) a1) 82 (gIx (21 + a0)) (((gU M5 82 (gIx ((0 + (3 * a0)) + (M5 82 (gIx (21 + a0))))) a1) 82 (gIx (21 + a0))) + 1))) (fun M6 r7 =>
        some (M6, some (.inl r7)))))))))))))) := rfl
noncomputable def L_X10_comfort_42 (C : gCl) (n : Nat) (x1 : Int) (x2 : Int) (x3 : Int) (x4 : Int) (M : gM) : Option gR := gRun gLay C (fun M v => some (M, v)) gC_X10_comfort gH_X10_comfort n 42 [some (.inr (.inr (82))), some (.inl x1), some (.inl x2), some (.inl x3), some (.inl x4), none] [] M
noncomputable def L_X10_comfort_69 (C : gCl) (n : Nat) (x1 : Int) (x2 : Int) (x3 : Int) (x4 : Int) (x5 : Int) (M : gM) : Option gR := gRun gLay C (fun M v => some (M, v)) gC_X10_comfort gH_X10_comfort n 69 [some (.inr (.inr (82))), some (.inl x1), some (.inl x2), some (.inl x3), some (.inl x4), some (.inl x5)] [] M
set_option maxRecDepth 20000 in
set_option maxHeartbeats 4000000 in
theorem q_X10_comfort_42 (C : gCl) (n : Nat) (x1 : Int) (x2 : Int) (x3 : Int) (x4 : Int) (M : gM) : L_X10_comfort_42 C (n + 1) x1 x2 x3 x4 M =
  gIf (gInb ((0 + (3 * x1)) + x4) 443) (
  cond (gEq (M 82 (gIx ((0 + (3 * x1)) + x4))) x3) (
    L_X10_comfort_69 C n x1 x2 x3 x4 x4 M) (
    L_X10_comfort_42 C n x1 x2 x3 (x4 + 1) M)) := rfl
set_option maxRecDepth 20000 in
set_option maxHeartbeats 4000000 in
theorem q_X10_comfort_69 (C : gCl) (n : Nat) (x1 : Int) (x2 : Int) (x3 : Int) (x4 : Int) (x5 : Int) (M : gM) : L_X10_comfort_69 C (n + 1) x1 x2 x3 x4 x5 M =
  cond (gLt x5 (x2 - 1)) (
    gIf (gInb (((0 + (3 * x1)) + x5) + 1) 443) (
    gIf (gInb ((0 + (3 * x1)) + x5) 443) (
    L_X10_comfort_69 C n x1 x2 x3 x4 (x5 + 1) (gU M 82 (gIx ((0 + (3 * x1)) + x5)) (M 82 (gIx (((0 + (3 * x1)) + x5) + 1))))))) (
    gIf (gInb (21 + x1) 443) (
    gIf (gInb (21 + x1) 443) (
    some (gU M 82 (gIx (21 + x1)) ((M 82 (gIx (21 + x1))) - 1), some (.inl x3))))) := rfl
set_option maxRecDepth 20000 in
set_option maxHeartbeats 4000000 in
theorem q_X10_comfort (N d : Nat) (a0 : Int) (M : gM) : gEv N (d + 1) 136 [.inr (.inr (82)), .inl a0] M =
  gCi ((gEv N d) 116 [.inr (.inr (82)), .inl a0] M) (fun M1 r2 =>
  cond (gEq r2 0) (
    some (M1, some (.inl ((-2))))) (
    gIf (gInb (21 + a0) 443) (
    cond (gEq (M1 82 (gIx (21 + a0))) 0) (
      some (M1, some (.inl ((-4))))) (
      gCv ((gEv N d) 133 [.inr (.inr (82))] M1) (fun M3 =>
      gCi ((gEv N d) 118 [.inr (.inr (82)), .inl 0, .inl a0] M3) (fun M4 r5 =>
      L_X10_comfort_42 (gEv N d) N a0 (M1 82 (gIx (21 + a0))) r5 0 M4)))))) := rfl
set_option maxRecDepth 20000 in
set_option maxHeartbeats 4000000 in
theorem q_X10_undo (N d : Nat)  (M : gM) : gEv N (d + 1) 137 [.inr (.inr (82))] M =
  cond (gEq (M 81 1) 0) (
    some (M, some (.inl ((-4))))) (
    gCv ((gEv N d) 114 [.inr (.inr (82)), .inl (124 + (29 * (gU M 81 1 ((M 81 1) - 1) 81 1))), .inl 0, .inl 29] (gU M 81 1 ((M 81 1) - 1))) (fun M1 =>
    some (M1, some (.inl (M1 81 1))))) := rfl
set_option maxRecDepth 20000 in
set_option maxHeartbeats 4000000 in
theorem q_X10_keep (N d : Nat) (a0 : Int) (M : gM) : gEv N (d + 1) 138 [.inr (.inr (82)), .inl a0] M =
  gCi ((gEv N d) 99 [.inr (.inl (gW a0)), .inr (.inl (((0 : Nat) : Int))), .inr (.inl (((1 : Nat) : Int)))] M) (fun M1 r2 =>
  cond (gEq r2 0) (
    some (M1, some (.inl ((-2))))) (
    gCv ((gEv N d) 114 [.inr (.inr (82)), .inl 0, .inl (356 + (29 * a0)), .inl 29] M1) (fun M3 =>
    gIf (gInb a0 2) (gIf (gB01 1) (
    gIf (gInb 28 443) (
    some (gU M3 83 (gIx a0) 1, some (.inl ((gU M3 83 (gIx a0) 1) 82 (gIx 28)))))))))) := rfl
set_option maxRecDepth 20000 in
set_option maxHeartbeats 4000000 in
theorem q_X10_back (N d : Nat) (a0 : Int) (M : gM) : gEv N (d + 1) 139 [.inr (.inr (82)), .inl a0] M =
  gCi ((gEv N d) 99 [.inr (.inl (gW a0)), .inr (.inl (((0 : Nat) : Int))), .inr (.inl (((1 : Nat) : Int)))] M) (fun M1 r2 =>
  cond (gEq r2 0) (
    some (M1, some (.inl ((-2))))) (
    gIf (gInb a0 2) (
    cond (gEq (M1 83 (gIx a0)) 0) (
      some (M1, some (.inl ((-4))))) (
      gCv ((gEv N d) 114 [.inr (.inr (82)), .inl (356 + (29 * a0)), .inl 0, .inl 29] M1) (fun M3 =>
      gIf (gInb 28 443) (
      some (gU M3 81 1 0, some (.inl ((gU M3 81 1 0) 82 (gIx 28)))))))))) := rfl
noncomputable def L_X10_layTried_12 (C : gCl) (n : Nat) (x1 : Int) (x2 : Int) (M : gM) : Option gR := gRun gLay C (fun M v => some (M, v)) gC_X10_layTried gH_X10_layTried n 12 [some (.inr (.inr (82))), some (.inl x1), some (.inl x2)] [] M
set_option maxRecDepth 20000 in
set_option maxHeartbeats 4000000 in
theorem q_X10_layTried_12 (C : gCl) (n : Nat) (x1 : Int) (x2 : Int) (M : gM) : L_X10_layTried_12 C (n + 1) x1 x2 M =
  cond (gLt x2 x1) (
    gCv (C 124 [.inr (.inr (82)), .inl 414] M) (fun M1 =>
    L_X10_layTried_12 C n x1 (x2 + 1) M1)) (
    some (M, none)) := rfl
set_option maxRecDepth 20000 in
set_option maxHeartbeats 4000000 in
theorem q_X10_layTried (N d : Nat) (a0 : Int) (M : gM) : gEv N (d + 1) 140 [.inr (.inr (82)), .inl a0] M =
  gCv ((gEv N d) 114 [.inr (.inr (82)), .inl 0, .inl 414, .inl 29] M) (fun M1 =>
  L_X10_layTried_12 (gEv N d) N a0 0 M1) := rfl
set_option maxRecDepth 20000 in
set_option maxHeartbeats 4000000 in
theorem q_X10_behind (N d : Nat) (a0 : Int) (a1 : Int) (a2 : Int) (M : gM) : gEv N (d + 1) 141 [.inr (.inr (82)), .inl a0, .inl a1, .inl a2] M =
  gCi ((gEv N d) 116 [.inr (.inr (82)), .inl a0] M) (fun M1 r2 =>
  cond (gEq r2 0) (
    some (M1, some (.inl ((-2))))) (
    gCi ((gEv N d) 99 [.inr (.inl (gW a1)), .inr (.inl (((0 : Nat) : Int))), .inr (.inl (((60 : Nat) : Int) - ((0 : Nat) : Int)))] M1) (fun M3 r4 =>
    cond (gEq r4 0) (
      some (M3, some (.inl ((-3))))) (
      gCi ((gEv N d) 99 [.inr (.inl (gW a2)), .inr (.inl (((0 : Nat) : Int))), .inr (.inl (((1 : Nat) : Int)))] M3) (fun M5 r6 =>
      cond (gEq r6 0) (
        some (M5, some (.inl ((-3))))) (
        gCv ((gEv N d) 140 [.inr (.inr (82)), .inl a1] M5) (fun M7 =>
        gCi ((gEv N d) 120 [.inr (.inr (82)), .inl 414, .inl a0] M7) (fun M8 r9 =>
        cond (gEq a2 0) (
          some (M8, some (.inl r9))) (
          gCi ((gEv N d) 122 [.inl r9] M8) (fun M10 r11 =>
          some (M10, some (.inl r11)))))))))))) := rfl
noncomputable def L_X10_enters_34 (C : gCl) (n : Nat) (x1 : Int) (x2 : Int) (x3 : Int) (M : gM) : Option gR := gRun gLay C (fun M v => some (M, v)) gC_X10_enters gH_X10_enters n 34 [some (.inr (.inr (82))), some (.inl x1), some (.inl x2), some (.inl x3)] [] M
set_option maxRecDepth 20000 in
set_option maxHeartbeats 4000000 in
theorem q_X10_enters_34 (C : gCl) (n : Nat) (x1 : Int) (x2 : Int) (x3 : Int) (M : gM) : L_X10_enters_34 C (n + 1) x1 x2 x3 M =
  gIf (gInb 29 443) (
  cond (gLt x3 (M 82 (gIx 29))) (
    gCi (C 126 [.inr (.inr (82)), .inl 414, .inl x3] M) (fun M1 r2 =>
    cond (gEq r2 x1) (
      some (M1, some (.inl x3))) (
      L_X10_enters_34 C n x1 x2 (x3 + 1) M1))) (
    some (M, some (.inl ((-1)))))) := rfl
set_option maxRecDepth 20000 in
set_option maxHeartbeats 4000000 in
theorem q_X10_enters (N d : Nat) (a0 : Int) (a1 : Int) (M : gM) : gEv N (d + 1) 142 [.inr (.inr (82)), .inl a0, .inl a1] M =
  gCi ((gEv N d) 99 [.inr (.inl (gW a0)), .inr (.inl (((0 : Nat) : Int))), .inr (.inl (((6 : Nat) : Int) - ((0 : Nat) : Int)))] M) (fun M1 r2 =>
  cond (gEq r2 0) (
    some (M1, some (.inl ((-3))))) (
    gCi ((gEv N d) 99 [.inr (.inl (gW a1)), .inr (.inl (((0 : Nat) : Int))), .inr (.inl (((60 : Nat) : Int) - ((0 : Nat) : Int)))] M1) (fun M3 r4 =>
    cond (gEq r4 0) (
      some (M3, some (.inl ((-3))))) (
      gCv ((gEv N d) 140 [.inr (.inr (82)), .inl a1] M3) (fun M5 =>
      L_X10_enters_34 (gEv N d) N a0 a1 0 M5))))) := rfl
noncomputable def L_X10_ahead_19 (C : gCl) (n : Nat) (x1 : Int) (x2 : Int) (x3 : Int) (M : gM) : Option gR := gRun gLay C (fun M v => some (M, v)) gC_X10_ahead gH_X10_ahead n 19 [some (.inr (.inr (82))), some (.inl x1), some (.inl x2), some (.inl x3)] [] M
set_option maxRecDepth 20000 in
set_option maxHeartbeats 4000000 in
theorem q_X10_ahead_19 (C : gCl) (n : Nat) (x1 : Int) (x2 : Int) (x3 : Int) (M : gM) : L_X10_ahead_19 C (n + 1) x1 x2 x3 M =
  cond (gLt x3 61) (
    gCi (C 125 [.inr (.inr (82)), .inl 414, .inl x1, .inl x2] M) (fun M1 r2 =>
    cond (gEq r2 0) (
      gCv (C 124 [.inr (.inr (82)), .inl 414] M1) (fun M3 =>
      L_X10_ahead_19 C n x1 x2 (x3 + 1) M3)) (
      some (M1, some (.inl x3))))) (
    some (M, some (.inl ((-1))))) := rfl
set_option maxRecDepth 20000 in
set_option maxHeartbeats 4000000 in
theorem q_X10_ahead (N d : Nat) (a0 : Int) (a1 : Int) (M : gM) : gEv N (d + 1) 143 [.inr (.inr (82)), .inl a0, .inl a1] M =
  gCi ((gEv N d) 130 [.inr (.inr (82)), .inl a0, .inl a1] M) (fun M1 r2 =>
  cond (gEq r2 0) (
    some (M1, some (.inl ((-2))))) (
    gCv ((gEv N d) 140 [.inr (.inr (82)), .inl 0] M1) (fun M3 =>
    L_X10_ahead_19 (gEv N d) N a0 a1 0 M3))) := rfl
noncomputable def L_X10_wrong_4 (C : gCl) (n : Nat) (x1 : Int) (x2 : Int) (M : gM) : Option gR := gRun gLay C (fun M v => some (M, v)) gC_X10_wrong gH_X10_wrong n 4 [some (.inr (.inr (82))), some (.inl x1), some (.inl x2)] [] M
set_option maxRecDepth 20000 in
set_option maxHeartbeats 4000000 in
theorem q_X10_wrong_4 (C : gCl) (n : Nat) (x1 : Int) (x2 : Int) (M : gM) : L_X10_wrong_4 C (n + 1) x1 x2 M =
  gIf (gInb 37 443) (
  cond (gLt x2 (M 82 (gIx 37))) (
    gIf (gInb (38 + (2 * x2)) 443) (
    gIf (gInb ((38 + (2 * x2)) + 1) 443) (
    gCi (C 125 [.inr (.inr (82)), .inl 0, .inl (M 82 (gIx (38 + (2 * x2)))), .inl (M 82 (gIx ((38 + (2 * x2)) + 1)))] M) (fun M1 r2 =>
    cond (gEq r2 0) (
      L_X10_wrong_4 C n (x1 + 1) (x2 + 1) M1) (
      L_X10_wrong_4 C n (x1 + 0) (x2 + 1) M1))))) (
    some (M, some (.inl x1)))) := rfl
set_option maxRecDepth 20000 in
set_option maxHeartbeats 4000000 in
theorem q_X10_wrong (N d : Nat)  (M : gM) : gEv N (d + 1) 144 [.inr (.inr (82))] M =
  L_X10_wrong_4 (gEv N d) N 0 0 M := rfl
noncomputable def L_X10_layOrder_2 (C : gCl) (n : Nat) (x1 : Int) (M : gM) : Option gR := gRun gLay C (fun M v => some (M, v)) gC_X10_layOrder gH_X10_layOrder n 2 [some (.inr (.inr (82))), some (.inl x1)] [] M
set_option maxRecDepth 20000 in
set_option maxHeartbeats 4000000 in
theorem q_X10_layOrder_2 (C : gCl) (n : Nat) (x1 : Int) (M : gM) : L_X10_layOrder_2 C (n + 1) x1 M =
  cond (gLt x1 7) (
    gIf (gInb x1 7) (
    L_X10_layOrder_2 C n (x1 + 1) (gU M 99 (gIx x1) x1))) (
    some (M, none)) := rfl
set_option maxRecDepth 20000 in
set_option maxHeartbeats 4000000 in
theorem q_X10_layOrder (N d : Nat)  (M : gM) : gEv N (d + 1) 145 [.inr (.inr (82))] M =
  L_X10_layOrder_2 (gEv N d) N 0 M := rfl
noncomputable def L_X10_nextOrder_12 (C : gCl) (n : Nat) (x1 : Int) (x2 : Int) (M : gM) : Option gR := gRun gLay C (fun M v => some (M, v)) gC_X10_nextOrder gH_X10_nextOrder n 12 [some (.inr (.inr (82))), some (.inl x1), some (.inl x2), none, none, none] [] M
noncomputable def L_X10_nextOrder_49 (C : gCl) (n : Nat) (x1 : Int) (x2 : Int) (x3 : Int) (M : gM) : Option gR := gRun gLay C (fun M v => some (M, v)) gC_X10_nextOrder gH_X10_nextOrder n 49 [some (.inr (.inr (82))), some (.inl x1), some (.inl x2), some (.inl x3), none, none] [] M
noncomputable def L_X10_nextOrder_86 (C : gCl) (n : Nat) (x1 : Int) (x2 : Int) (x3 : Int) (x4 : Int) (x5 : Int) (M : gM) : Option gR := gRun gLay C (fun M v => some (M, v)) gC_X10_nextOrder gH_X10_nextOrder n 86 [some (.inr (.inr (82))), some (.inl x1), some (.inl x2), some (.inl x3), some (.inl x4), some (.inl x5)] [] M
set_option maxRecDepth 20000 in
set_option maxHeartbeats 4000000 in
theorem q_X10_nextOrder_12 (C : gCl) (n : Nat) (x1 : Int) (x2 : Int) (M : gM) : L_X10_nextOrder_12 C (n + 1) x1 x2 M =
  cond (gLt x2 0) (
    cond (gLt x2 0) (
      gIf (gB01 0) (some (M, some (.inl 0)))) (
      L_X10_nextOrder_49 C n x1 x2 (x1 - 1) M)) (
    gIf (gInb x2 7) (
    gIf (gInb (x2 + 1) 7) (
    cond (gLt (M 99 (gIx (x2 + 1))) (M 99 (gIx x2))) (
      L_X10_nextOrder_12 C n x1 (x2 + (-1)) M) (
      cond (gLt x2 0) (
        gIf (gB01 0) (some (M, some (.inl 0)))) (
        L_X10_nextOrder_49 C n x1 x2 (x1 - 1) M))))) := rfl
set_option maxRecDepth 20000 in
set_option maxHeartbeats 4000000 in
theorem q_X10_nextOrder_49 (C : gCl) (n : Nat) (x1 : Int) (x2 : Int) (x3 : Int) (M : gM) : L_X10_nextOrder_49 C (n + 1) x1 x2 x3 M =
  gIf (gInb x3 7) (
  gIf (gInb x2 7) (
  cond (gLt (M 99 (gIx x3)) (M 99 (gIx x2))) (
    L_X10_nextOrder_49 C n x1 x2 (x3 + (-1)) M) (
    gCv (C 147 [.inr (.inr (82)), .inl x2, .inl x3] M) (fun M1 =>
    L_X10_nextOrder_86 C n x1 x2 x3 (x2 + 1) (x1 - 1) M1)))) := rfl
set_option maxRecDepth 20000 in
set_option maxHeartbeats 4000000 in
theorem q_X10_nextOrder_86 (C : gCl) (n : Nat) (x1 : Int) (x2 : Int) (x3 : Int) (x4 : Int) (x5 : Int) (M : gM) : L_X10_nextOrder_86 C (n + 1) x1 x2 x3 x4 x5 M =
  cond (gLt x4 x5) (
    gCv (C 147 [.inr (.inr (82)), .inl x4, .inl x5] M) (fun M1 =>
    L_X10_nextOrder_86 C n x1 x2 x3 (x4 + 1) (x5 + (-1)) M1)) (
    gIf (gB01 1) (some (M, some (.inl 1)))) := rfl
set_option maxRecDepth 20000 in
set_option maxHeartbeats 4000000 in
theorem q_X10_nextOrder (N d : Nat)  (M : gM) : gEv N (d + 1) 146 [.inr (.inr (82))] M =
  gIf (gInb 29 443) (
  L_X10_nextOrder_12 (gEv N d) N (M 82 (gIx 29)) ((M 82 (gIx 29)) - 2) M) := rfl
set_option maxRecDepth 20000 in
set_option maxHeartbeats 4000000 in
theorem q_X10_change (N d : Nat) (a0 : Int) (a1 : Int) (M : gM) : gEv N (d + 1) 147 [.inr (.inr (82)), .inl a0, .inl a1] M =
  gIf (gInb a0 7) (
  gIf (gInb a1 7) (
  gIf (gInb a0 7) (
  gIf (gInb a1 7) (
  some (gU (gU M 99 (gIx a0) (M 99 (gIx a1))) 99 (gIx a1) (M 99 (gIx a0)), none))))) := rfl
noncomputable def L_X10_broken_2 (C : gCl) (n : Nat) (x1 : Int) (M : gM) : Option gR := gRun gLay C (fun M v => some (M, v)) gC_X10_broken gH_X10_broken n 2 [some (.inr (.inr (82))), some (.inl x1), none] [] M
noncomputable def L_X10_broken_35 (C : gCl) (n : Nat) (x1 : Int) (x2 : Int) (M : gM) : Option gR := gRun gLay C (fun M v => some (M, v)) gC_X10_broken gH_X10_broken n 35 [some (.inr (.inr (82))), some (.inl x1), some (.inl x2)] [] M
set_option maxRecDepth 20000 in
set_option maxHeartbeats 4000000 in
theorem q_X10_broken_2 (C : gCl) (n : Nat) (x1 : Int) (M : gM) : L_X10_broken_2 C (n + 1) x1 M =
  gIf (gInb 29 443) (
  cond (gLt x1 (M 82 (gIx 29))) (
    gIf (gInb x1 7) (
    gIf (gInb (M 99 (gIx x1)) 7) (
    L_X10_broken_2 C n (x1 + 1) (gU M 100 (gIx (M 99 (gIx x1))) x1)))) (
    L_X10_broken_35 C n 0 0 M)) := rfl
set_option maxRecDepth 20000 in
set_option maxHeartbeats 4000000 in
theorem q_X10_broken_35 (C : gCl) (n : Nat) (x1 : Int) (x2 : Int) (M : gM) : L_X10_broken_35 C (n + 1) x1 x2 M =
  gIf (gInb 37 443) (
  cond (gLt x2 (M 82 (gIx 37))) (
    gIf (gInb (38 + (2 * x2)) 443) (
    gIf (gInb (M 82 (gIx (38 + (2 * x2)))) 7) (
    gIf (gInb ((38 + (2 * x2)) + 1) 443) (
    gIf (gInb (M 82 (gIx ((38 + (2 * x2)) + 1))) 7) (
    cond (gLt (M 100 (gIx (M 82 (gIx ((38 + (2 * x2)) + 1))))) (M 100 (gIx (M 82 (gIx (38 + (2 * x2))))))) (
      L_X10_broken_35 C n (x1 + 1) (x2 + 1) M) (
      L_X10_broken_35 C n (x1 + 0) (x2 + 1) M)))))) (
    some (M, some (.inl x1)))) := rfl
set_option maxRecDepth 20000 in
set_option maxHeartbeats 4000000 in
theorem q_X10_broken (N d : Nat)  (M : gM) : gEv N (d + 1) 148 [.inr (.inr (82))] M =
  L_X10_broken_2 (gEv N d) N 0 M := rfl
noncomputable def L_X10_ranked_26 (C : gCl) (n : Nat) (x1 : Int) (x2 : Int) (x3 : Int) (M : gM) : Option gR := gRun gLay C (fun M v => some (M, v)) gC_X10_ranked gH_X10_ranked n 26 [some (.inr (.inr (82))), some (.inl x1), some (.inl x2), some (.inl x3), none, none] [] M
noncomputable def L_X10_ranked_48 (C : gCl) (n : Nat) (x1 : Int) (x2 : Int) (x3 : Int) (x4 : Int) (x5 : Int) (M : gM) : Option gR := gRun gLay C (fun M v => some (M, v)) gC_X10_ranked gH_X10_ranked n 48 [some (.inr (.inr (82))), some (.inl x1), some (.inl x2), some (.inl x3), some (.inl x4), some (.inl x5)] [] M
set_option maxRecDepth 20000 in
set_option maxHeartbeats 4000000 in
theorem q_X10_ranked_26 (C : gCl) (n : Nat) (x1 : Int) (x2 : Int) (x3 : Int) (M : gM) : L_X10_ranked_26 C (n + 1) x1 x2 x3 M =
  cond (gEq x3 0) (
    cond (gEq x1 ((-1))) (
      some (M, some (.inl x2))) (
      gIf (gInb 29 443) (
      cond (gLt x1 (M 82 (gIx 29))) (
        gIf (gInb x1 7) (
        some (M, some (.inl (M 101 (gIx x1)))))) (
        some (M, some (.inl ((-1)))))))) (
    gCi (C 148 [.inr (.inr (82))] M) (fun M1 r2 =>
    cond (gLt r2 x2) (
      L_X10_ranked_48 C n x1 r2 x3 r2 0 M1) (
      gCi (C 146 [.inr (.inr (82))] M1) (fun M3 r4 =>
      L_X10_ranked_26 C n x1 x2 r4 M3)))) := rfl
set_option maxRecDepth 20000 in
set_option maxHeartbeats 4000000 in
theorem q_X10_ranked_48 (C : gCl) (n : Nat) (x1 : Int) (x2 : Int) (x3 : Int) (x4 : Int) (x5 : Int) (M : gM) : L_X10_ranked_48 C (n + 1) x1 x2 x3 x4 x5 M =
  cond (gLt x5 7) (
    gIf (gInb x5 7) (
    gIf (gInb x5 7) (
    L_X10_ranked_48 C n x1 x2 x3 x4 (x5 + 1) (gU M 101 (gIx x5) (M 99 (gIx x5)))))) (
    gCi (C 146 [.inr (.inr (82))] M) (fun M1 r2 =>
    L_X10_ranked_26 C n x1 x2 r2 M1)) := rfl
set_option maxRecDepth 20000 in
set_option maxHeartbeats 4000000 in
theorem q_X10_ranked (N d : Nat) (a0 : Int) (M : gM) : gEv N (d + 1) 149 [.inr (.inr (82)), .inl a0] M =
  gCi ((gEv N d) 99 [.inr (.inl (gW a0)), .inr (.inl (((0 : Nat) : Int) - ((1 : Nat) : Int))), .inr (.inl (((6 : Nat) : Int) - ((0 : Nat) : Int)))] M) (fun M1 r2 =>
  cond (gEq r2 0) (
    some (M1, some (.inl ((-3))))) (
    gCv ((gEv N d) 145 [.inr (.inr (82))] M1) (fun M3 =>
    L_X10_ranked_26 (gEv N d) N a0 99 1 M3))) := rfl
noncomputable def L_X10_countLines_7 (C : gCl) (n : Nat) (x1 : Int) (M : gM) : Option gR := gRun gLay C (fun M v => some (M, v)) gC_X10_countLines gH_X10_countLines n 7 [some (.inr (.inr (82))), some (.inl x1), none] [] M
noncomputable def L_X10_countLines_32 (C : gCl) (n : Nat) (x1 : Int) (M : gM) : Option gR := gRun gLay C (fun M v => some (M, v)) gC_X10_countLines gH_X10_countLines n 32 [some (.inr (.inr (82))), some (.inl x1), none] [] M
noncomputable def L_X10_countLines_55 (C : gCl) (n : Nat) (x1 : Int) (x2 : Int) (M : gM) : Option gR := gRun gLay C (fun M v => some (M, v)) gC_X10_countLines gH_X10_countLines n 55 [some (.inr (.inr (82))), some (.inl x1), some (.inl x2)] [] M
set_option maxRecDepth 20000 in
set_option maxHeartbeats 4000000 in
theorem q_X10_countLines_7 (C : gCl) (n : Nat) (x1 : Int) (M : gM) : L_X10_countLines_7 C (n + 1) x1 M =
  cond (gLt x1 49) (
    gIf (gInb x1 49) (
    L_X10_countLines_7 C n (x1 + 1) (gU M 102 (gIx x1) 0))) (
    gCv (C 145 [.inr (.inr (82))] M) (fun M1 =>
    L_X10_countLines_32 C n 1 M1)) := rfl
set_option maxRecDepth 20000 in
set_option maxHeartbeats 4000000 in
theorem q_X10_countLines_32 (C : gCl) (n : Nat) (x1 : Int) (M : gM) : L_X10_countLines_32 C (n + 1) x1 M =
  cond (gEq x1 0) (
    some (M, none)) (
    gCi (C 148 [.inr (.inr (82))] M) (fun M1 r2 =>
    cond (gEq r2 0) (
      L_X10_countLines_55 C n x1 0 (gU M1 81 30 ((M1 81 30) + 1))) (
      gCi (C 146 [.inr (.inr (82))] M1) (fun M3 r4 =>
      L_X10_countLines_32 C n r4 M3)))) := rfl
set_option maxRecDepth 20000 in
set_option maxHeartbeats 4000000 in
theorem q_X10_countLines_55 (C : gCl) (n : Nat) (x1 : Int) (x2 : Int) (M : gM) : L_X10_countLines_55 C (n + 1) x1 x2 M =
  gIf (gInb 29 443) (
  cond (gLt x2 (7 * (M 82 (gIx 29)))) (
    gIf (gInb x2 49) (
    cond (gEq 7 0) none (
    gIf (gInb 29 443) (
    cond (gLt (gRem x2 7) (M 82 (gIx 29))) (
      cond (gEq 7 0) none (
      gIf (gInb (gDiv x2 7) 7) (
      cond (gEq 7 0) none (
      gIf (gInb (gRem x2 7) 7) (
      cond (gLt (M 100 (gIx (gDiv x2 7))) (M 100 (gIx (gRem x2 7)))) (
        gIf (gInb x2 49) (
        L_X10_countLines_55 C n x1 (x2 + 1) (gU M 102 (gIx x2) ((M 102 (gIx x2)) + 1)))) (
        gIf (gInb x2 49) (
        L_X10_countLines_55 C n x1 (x2 + 1) (gU M 102 (gIx x2) ((M 102 (gIx x2)) + 0))))))))) (
      gIf (gInb x2 49) (
      L_X10_countLines_55 C n x1 (x2 + 1) (gU M 102 (gIx x2) ((M 102 (gIx x2)) + 0)))))))) (
    gCi (C 146 [.inr (.inr (82))] M) (fun M1 r2 =>
    L_X10_countLines_32 C n r2 M1))) := rfl
set_option maxRecDepth 20000 in
set_option maxHeartbeats 4000000 in
theorem q_X10_countLines (N d : Nat)  (M : gM) : gEv N (d + 1) 150 [.inr (.inr (82))] M =
  L_X10_countLines_7 (gEv N d) N 0 (gU M 81 30 0) := rfl
set_option maxRecDepth 20000 in
set_option maxHeartbeats 4000000 in
theorem q_X10_lines (N d : Nat)  (M : gM) : gEv N (d + 1) 151 [.inr (.inr (82))] M =
  gCv ((gEv N d) 150 [.inr (.inr (82))] M) (fun M1 =>
  some (M1, some (.inl (M1 81 30)))) := rfl
noncomputable def L_X10_next_13 (C : gCl) (n : Nat) (x1 : Int) (x2 : Int) (x3 : Int) (M : gM) : Option gR := gRun gLay C (fun M v => some (M, v)) gC_X10_next gH_X10_next n 13 [some (.inr (.inr (82))), some (.inl x1), some (.inl x2), some (.inl x3), none, none, none] [] M
noncomputable def L_X10_next_29 (C : gCl) (n : Nat) (x1 : Int) (x2 : Int) (x3 : Int) (x4 : Int) (M : gM) : Option gR := gRun gLay C (fun M v => some (M, v)) gC_X10_next gH_X10_next n 29 [some (.inr (.inr (82))), some (.inl x1), some (.inl x2), some (.inl x3), some (.inl x4), none, none] [] M
noncomputable def L_X10_next_79 (C : gCl) (n : Nat) (x1 : Int) (x2 : Int) (x3 : Int) (x4 : Int) (x5 : Int) (s0 : Int) (M : gM) : Option gR := gRun gLay C (fun M v => some (M, v)) gC_X10_next gH_X10_next n 79 [some (.inr (.inr (82))), some (.inl x1), some (.inl x2), some (.inl x3), some (.inl x4), some (.inl x5), none] [.inl s0] M
set_option maxRecDepth 20000 in
set_option maxHeartbeats 4000000 in
theorem q_X10_next_13 (C : gCl) (n : Nat) (x1 : Int) (x2 : Int) (x3 : Int) (M : gM) : L_X10_next_13 C (n + 1) x1 x2 x3 M =
  gIf (gInb 29 443) (
  cond (gLt x3 (M 82 (gIx 29))) (
    L_X10_next_29 C n x1 x2 x3 (x3 + 1) M) (
    some (M, some (.inl x1)))) := rfl
set_option maxRecDepth 20000 in
set_option maxHeartbeats 4000000 in
theorem q_X10_next_29 (C : gCl) (n : Nat) (x1 : Int) (x2 : Int) (x3 : Int) (x4 : Int) (M : gM) : L_X10_next_29 C (n + 1) x1 x2 x3 x4 M =
  gIf (gInb 29 443) (
  cond (gLt x4 (M 82 (gIx 29))) (
    gIf (gInb ((7 * x3) + x4) 49) (
    cond (gLt ((M 81 30) - (M 102 (gIx ((7 * x3) + x4)))) (M 102 (gIx ((7 * x3) + x4)))) (
      L_X10_next_79 C n x1 x2 x3 x4 (M 102 (gIx ((7 * x3) + x4))) (M 102 (gIx ((7 * x3) + x4))) M) (
      L_X10_next_79 C n x1 x2 x3 x4 (M 102 (gIx ((7 * x3) + x4))) ((M 81 30) - (M 102 (gIx ((7 * x3) + x4)))) M))) (
    L_X10_next_13 C n x1 x2 (x3 + 1) M)) := rfl
set_option maxRecDepth 20000 in
set_option maxHeartbeats 4000000 in
theorem q_X10_next_79 (C : gCl) (n : Nat) (x1 : Int) (x2 : Int) (x3 : Int) (x4 : Int) (x5 : Int) (s0 : Int) (M : gM) : L_X10_next_79 C (n + 1) x1 x2 x3 x4 x5 s0 M =
  cond (gLt s0 x2) (
    cond (gLt s0 x2) (
      L_X10_next_29 C n ((10 * x3) + x4) s0 x3 (x4 + 1) M) (
      L_X10_next_29 C n ((10 * x3) + x4) x2 x3 (x4 + 1) M)) (
    cond (gLt s0 x2) (
      L_X10_next_29 C n x1 s0 x3 (x4 + 1) M) (
      L_X10_next_29 C n x1 x2 x3 (x4 + 1) M)) := rfl
set_option maxRecDepth 20000 in
set_option maxHeartbeats 4000000 in
theorem q_X10_next (N d : Nat)  (M : gM) : gEv N (d + 1) 152 [.inr (.inr (82))] M =
  gCv ((gEv N d) 150 [.inr (.inr (82))] M) (fun M1 =>
  L_X10_next_13 (gEv N d) N ((-1)) (M1 81 30) 0 M1) := rfl
noncomputable def L_X10_fits_5 (C : gCl) (n : Nat) (x1 : Int) (x2 : Int) (x3 : Int) (x4 : Int) (M : gM) : Option gR := gRun gLay C (fun M v => some (M, v)) gC_X10_fits gH_X10_fits n 5 [some (.inr (.inr (82))), some (.inl x1), some (.inl x2), some (.inl x3), some (.inl x4), none] [] M
noncomputable def L_X10_fits_34 (C : gCl) (n : Nat) (x1 : Int) (x2 : Int) (x3 : Int) (x4 : Int) (M : gM) : Option gR := gRun gLay C (fun M v => some (M, v)) gC_X10_fits gH_X10_fits n 34 [some (.inr (.inr (82))), some (.inl x1), some (.inl x2), some (.inl x3), some (.inl x4), none] [] M
noncomputable def L_X10_fits_86 (C : gCl) (n : Nat) (x1 : Int) (x2 : Int) (x3 : Int) (x4 : Int) (x5 : Int) (M : gM) : Option gR := gRun gLay C (fun M v => some (M, v)) gC_X10_fits gH_X10_fits n 86 [some (.inr (.inr (82))), some (.inl x1), some (.inl x2), some (.inl x3), some (.inl x4), some (.inl x5)] [] M
noncomputable def L_X10_fits_112 (C : gCl) (n : Nat) (x1 : Int) (x2 : Int) (x3 : Int) (x4 : Int) (x5 : Int) (M : gM) : Option gR := gRun gLay C (fun M v => some (M, v)) gC_X10_fits gH_X10_fits n 112 [some (.inr (.inr (82))), some (.inl x1), some (.inl x2), some (.inl x3), some (.inl x4), some (.inl x5)] [] M
set_option maxRecDepth 20000 in
set_option maxHeartbeats 4000000 in
theorem q_X10_fits_5 (C : gCl) (n : Nat) (x1 : Int) (x2 : Int) (x3 : Int) (x4 : Int) (M : gM) : L_X10_fits_5 C (n + 1) x1 x2 x3 x4 M =
  cond (gLt x4 7) (
    gIf (gInb x4 7) (
    gIf (gInb x4 7) (
    L_X10_fits_5 C n x1 x2 x3 (x4 + 1) (gU (gU M 103 (gIx x4) ((-1))) 104 (gIx x4) 0)))) (
    L_X10_fits_34 C n x1 x2 x3 x4 M) := rfl
set_option maxRecDepth 20000 in
set_option maxHeartbeats 4000000 in
theorem q_X10_fits_34 (C : gCl) (n : Nat) (x1 : Int) (x2 : Int) (x3 : Int) (x4 : Int) (M : gM) : L_X10_fits_34 C (n + 1) x1 x2 x3 x4 M =
  cond (gLt x3 0) (
    cond (gLt x3 0) (
      gIf (gB01 0) (some (M, some (.inl 0)))) (
      gIf (gB01 1) (some (M, some (.inl 1))))) (
    gIf (gInb 29 443) (
    cond (gLt x3 (M 82 (gIx 29))) (
      gCi (C 120 [.inr (.inr (82)), .inl 0, .inl x3] M) (fun M1 r2 =>
      gIf (gInb x3 7) (
      cond (gEq (M1 103 (gIx x3)) ((-1))) (
        L_X10_fits_86 C n x1 x2 x3 r2 ((M1 103 (gIx x3)) + 1) M1) (
        gIf (gInb (M1 103 (gIx x3)) 7) (
        gIf (gInb (M1 103 (gIx x3)) 7) (
        L_X10_fits_86 C n x1 x2 x3 r2 ((M1 103 (gIx x3)) + 1) (gU M1 104 (gIx (M1 103 (gIx x3))) ((M1 104 (gIx (M1 103 (gIx x3)))) - r2)))))))) (
      cond (gLt x3 0) (
        gIf (gB01 0) (some (M, some (.inl 0)))) (
        gIf (gB01 1) (some (M, some (.inl 1))))))) := rfl
set_option maxRecDepth 20000 in
set_option maxHeartbeats 4000000 in
theorem q_X10_fits_86 (C : gCl) (n : Nat) (x1 : Int) (x2 : Int) (x3 : Int) (x4 : Int) (x5 : Int) (M : gM) : L_X10_fits_86 C (n + 1) x1 x2 x3 x4 x5 M =
  cond (gLt x5 x2) (
    gIf (gInb x5 7) (
    cond (gLt x1 ((M 104 (gIx x5)) + x4)) (
      L_X10_fits_86 C n x1 x2 x3 x4 (x5 + 1) M) (
      L_X10_fits_112 C n x1 x2 x3 x4 x5 M))) (
    L_X10_fits_112 C n x1 x2 x3 x4 x5 M) := rfl
set_option maxRecDepth 20000 in
set_option maxHeartbeats 4000000 in
theorem q_X10_fits_112 (C : gCl) (n : Nat) (x1 : Int) (x2 : Int) (x3 : Int) (x4 : Int) (x5 : Int) (M : gM) : L_X10_fits_112 C (n + 1) x1 x2 x3 x4 x5 M =
  cond (gLt x5 x2) (
    gIf (gInb x3 7) (
    gIf (gInb x5 7) (
    gIf (gInb x5 7) (
    L_X10_fits_34 C n x1 x2 (x3 + 1) x4 (gU (gU M 103 (gIx x3) x5) 104 (gIx x5) (((gU M 103 (gIx x3) x5) 104 (gIx x5)) + x4)))))) (
    gIf (gInb x3 7) (
    L_X10_fits_34 C n x1 x2 (x3 + (-1)) x4 (gU M 103 (gIx x3) ((-1))))) := rfl
set_option maxRecDepth 20000 in
set_option maxHeartbeats 4000000 in
theorem q_X10_fits (N d : Nat) (a0 : Int) (a1 : Int) (M : gM) : gEv N (d + 1) 153 [.inr (.inr (82)), .inl a0, .inl a1] M =
  L_X10_fits_5 (gEv N d) N a0 a1 0 0 M := rfl
noncomputable def L_X10_rooms_33 (C : gCl) (n : Nat) (x1 : Int) (x2 : Int) (x3 : Int) (M : gM) : Option gR := gRun gLay C (fun M v => some (M, v)) gC_X10_rooms gH_X10_rooms n 33 [some (.inr (.inr (82))), some (.inl x1), some (.inl x2), some (.inl x3)] [] M
set_option maxRecDepth 20000 in
set_option maxHeartbeats 4000000 in
theorem q_X10_rooms_33 (C : gCl) (n : Nat) (x1 : Int) (x2 : Int) (x3 : Int) (M : gM) : L_X10_rooms_33 C (n + 1) x1 x2 x3 M =
  cond (gLt x3 8) (
    gCi (C 153 [.inr (.inr (82)), .inl x1, .inl x3] M) (fun M1 r2 =>
    cond (gEq r2 0) (
      L_X10_rooms_33 C n x1 x2 (x3 + 1) M1) (
      cond (gEq x2 ((-1))) (
        some (M1, some (.inl x3))) (
        gIf (gInb x2 7) (
        some (M1, some (.inl (M1 103 (gIx x2))))))))) (
    some (M, some (.inl ((-1))))) := rfl
set_option maxRecDepth 20000 in
set_option maxHeartbeats 4000000 in
theorem q_X10_rooms (N d : Nat) (a0 : Int) (a1 : Int) (M : gM) : gEv N (d + 1) 154 [.inr (.inr (82)), .inl a0, .inl a1] M =
  cond (gEq a1 ((-1))) (
    gCi ((gEv N d) 99 [.inr (.inl (gW a0)), .inr (.inl (((1 : Nat) : Int))), .inr (.inl (((400 : Nat) : Int) - ((0 : Nat) : Int)))] M) (fun M1 r2 =>
    cond (gEq r2 0) (
      some (M1, some (.inl ((-3))))) (
      L_X10_rooms_33 (gEv N d) N a0 a1 0 M1))) (
    gCi ((gEv N d) 116 [.inr (.inr (82)), .inl a1] M) (fun M3 r4 =>
    cond (gEq r4 0) (
      some (M3, some (.inl ((-2))))) (
      gCi ((gEv N d) 99 [.inr (.inl (gW a0)), .inr (.inl (((1 : Nat) : Int))), .inr (.inl (((400 : Nat) : Int) - ((0 : Nat) : Int)))] M3) (fun M5 r6 =>
      cond (gEq r6 0) (
        some (M5, some (.inl ((-3))))) (
        L_X10_rooms_33 (gEv N d) N a0 a1 0 M5))))) := rfl
noncomputable def L_X10_misread_66 (C : gCl) (n : Nat) (x1 : Int) (x2 : Int) (x3 : Int) (x4 : Int) (x5 : Int) (x6 : Int) (x7 : Int) (x8 : Int) (M : gM) : Option gR := gRun gLay C (fun M v => some (M, v)) gC_X10_misread gH_X10_misread n 66 [some (.inr (.inr (82))), some (.inl x1), some (.inl x2), some (.inl x3), some (.inl x4), some (.inl x5), some (.inl x6), some (.inl x7), some (.inl x8), none, none] [] M
noncomputable def L_X10_misread_75 (C : gCl) (n : Nat) (x1 : Int) (x2 : Int) (x3 : Int) (x4 : Int) (x5 : Int) (x6 : Int) (x7 : Int) (x8 : Int) (x9 : Int) (M : gM) : Option gR := gRun gLay C (fun M v => some (M, v)) gC_X10_misread gH_X10_misread n 75 [some (.inr (.inr (82))), some (.inl x1), some (.inl x2), some (.inl x3), some (.inl x4), some (.inl x5), some (.inl x6), some (.inl x7), some (.inl x8), some (.inl x9), none] [] M
noncomputable def L_X10_misread_96 (C : gCl) (n : Nat) (x1 : Int) (x2 : Int) (x3 : Int) (x4 : Int) (x5 : Int) (x6 : Int) (x7 : Int) (x8 : Int) (x9 : Int) (s0 : Int) (M : gM) : Option gR := gRun gLay C (fun M v => some (M, v)) gC_X10_misread gH_X10_misread n 96 [some (.inr (.inr (82))), some (.inl x1), some (.inl x2), some (.inl x3), some (.inl x4), some (.inl x5), some (.inl x6), some (.inl x7), some (.inl x8), some (.inl x9), none] [.inl s0] M
noncomputable def L_X10_misread_159 (C : gCl) (n : Nat) (x1 : Int) (x2 : Int) (x3 : Int) (x4 : Int) (x5 : Int) (x6 : Int) (x7 : Int) (x8 : Int) (x9 : Int) (M : gM) : Option gR := gRun gLay C (fun M v => some (M, v)) gC_X10_misread gH_X10_misread n 159 [some (.inr (.inr (82))), some (.inl x1), some (.inl x2), some (.inl x3), some (.inl x4), some (.inl x5), some (.inl x6), some (.inl x7), some (.inl x8), some (.inl x9), none] [] M
set_option maxRecDepth 20000 in
set_option maxHeartbeats 4000000 in
theorem q_X10_misread_66 (C : gCl) (n : Nat) (x1 : Int) (x2 : Int) (x3 : Int) (x4 : Int) (x5 : Int) (x6 : Int) (x7 : Int) (x8 : Int) (M : gM) : L_X10_misread_66 C (n + 1) x1 x2 x3 x4 x5 x6 x7 x8 M =
  cond (gLt x8 2) (
    L_X10_misread_75 C n x1 x2 x3 x4 x5 x6 x7 x8 ((-1)) M) (
    L_X10_misread_159 C n x1 x2 x3 x4 x5 x6 x7 x7 400 M) := rfl
set_option maxRecDepth 20000 in
set_option maxHeartbeats 4000000 in
theorem q_X10_misread_75 (C : gCl) (n : Nat) (x1 : Int) (x2 : Int) (x3 : Int) (x4 : Int) (x5 : Int) (x6 : Int) (x7 : Int) (x8 : Int) (x9 : Int) (M : gM) : L_X10_misread_75 C (n + 1) x1 x2 x3 x4 x5 x6 x7 x8 x9 M =
  cond (gLt x9 2) (
    cond (gEq x8 0) (
      L_X10_misread_96 C n x1 x2 x3 x4 x5 x6 x7 x8 x9 (20 - (2 * x3)) M) (
      L_X10_misread_96 C n x1 x2 x3 x4 x5 x6 x7 x8 x9 x3 M)) (
    L_X10_misread_66 C n x1 x2 x3 x4 x5 x6 x7 (x8 + 1) M) := rfl
set_option maxRecDepth 20000 in
set_option maxHeartbeats 4000000 in
theorem q_X10_misread_96 (C : gCl) (n : Nat) (x1 : Int) (x2 : Int) (x3 : Int) (x4 : Int) (x5 : Int) (x6 : Int) (x7 : Int) (x8 : Int) (x9 : Int) (s0 : Int) (M : gM) : L_X10_misread_96 C (n + 1) x1 x2 x3 x4 x5 x6 x7 x8 x9 s0 M =
  cond (gEq x9 0) (
    cond (gLt (x6 + x9) (x5 + x8)) (
      L_X10_misread_75 C n x1 x2 x3 x4 x5 x6 (x7 + (s0 * (20 - (2 * x3)))) x8 (x9 + 1) M) (
      L_X10_misread_75 C n x1 x2 x3 x4 x5 x6 (x7 + 0) x8 (x9 + 1) M)) (
    cond (gLt (x6 + x9) (x5 + x8)) (
      L_X10_misread_75 C n x1 x2 x3 x4 x5 x6 (x7 + (s0 * x3)) x8 (x9 + 1) M) (
      L_X10_misread_75 C n x1 x2 x3 x4 x5 x6 (x7 + 0) x8 (x9 + 1) M)) := rfl
set_option maxRecDepth 20000 in
set_option maxHeartbeats 4000000 in
theorem q_X10_misread_159 (C : gCl) (n : Nat) (x1 : Int) (x2 : Int) (x3 : Int) (x4 : Int) (x5 : Int) (x6 : Int) (x7 : Int) (x8 : Int) (x9 : Int) (M : gM) : L_X10_misread_159 C (n + 1) x1 x2 x3 x4 x5 x6 x7 x8 x9 M =
  cond (gEq x9 0) (
    cond (gEq x4 0) (
      cond (gEq x8 0) none (
      some (M, some (.inl (gDiv x7 x8))))) (
      cond (gEq x8 0) none (
      some (M, some (.inl (gDiv 400 x8)))))) (
    cond (gEq x9 0) none (
    L_X10_misread_159 C n x1 x2 x3 x4 x5 x6 x7 x9 (gRem x8 x9) M)) := rfl
set_option maxRecDepth 20000 in
set_option maxHeartbeats 4000000 in
theorem q_X10_misread (N d : Nat) (a0 : Int) (a1 : Int) (a2 : Int) (a3 : Int) (M : gM) : gEv N (d + 1) 155 [.inr (.inr (82)), .inl a0, .inl a1, .inl a2, .inl a3] M =
  gCi ((gEv N d) 130 [.inr (.inr (82)), .inl a0, .inl a1] M) (fun M1 r2 =>
  cond (gEq r2 0) (
    some (M1, some (.inl ((-2))))) (
    gCi ((gEv N d) 99 [.inr (.inl (gW a2)), .inr (.inl (((0 : Nat) : Int))), .inr (.inl (((10 : Nat) : Int) - ((0 : Nat) : Int)))] M1) (fun M3 r4 =>
    cond (gEq r4 0) (
      some (M3, some (.inl ((-3))))) (
      gCi ((gEv N d) 99 [.inr (.inl (gW a3)), .inr (.inl (((0 : Nat) : Int))), .inr (.inl (((1 : Nat) : Int)))] M3) (fun M5 r6 =>
      cond (gEq r6 0) (
        some (M5, some (.inl ((-3))))) (
        gCi ((gEv N d) 120 [.inr (.inr (82)), .inl 0, .inl a0] M5) (fun M7 r8 =>
        gCi ((gEv N d) 122 [.inl r8] M7) (fun M9 r10 =>
        gCi ((gEv N d) 120 [.inr (.inr (82)), .inl 0, .inl a1] M9) (fun M11 r12 =>
        gCi ((gEv N d) 122 [.inl r12] M11) (fun M13 r14 =>
        L_X10_misread_66 (gEv N d) N a0 a1 a2 a3 r10 r14 0 ((-1)) M13)))))))))) := rfl
set_option maxRecDepth 20000 in
set_option maxHeartbeats 4000000 in
theorem q_X10_seen (N d : Nat) (a0 : Int) (a1 : Int) (a2 : Int) (M : gM) : gEv N (d + 1) 156 [.inr (.inr (82)), .inl a0, .inl a1, .inl a2] M =
  gCi ((gEv N d) 116 [.inr (.inr (82)), .inl a0] M) (fun M1 r2 =>
  cond (gEq r2 0) (
    some (M1, some (.inl ((-2))))) (
    gCi ((gEv N d) 99 [.inr (.inl (gW a1)), .inr (.inl (((0 : Nat) : Int))), .inr (.inl (((12 : Nat) : Int) - ((0 : Nat) : Int)))] M1) (fun M3 r4 =>
    cond (gEq r4 0) (
      some (M3, some (.inl ((-3))))) (
      gCi ((gEv N d) 99 [.inr (.inl (gW a2)), .inr (.inl (((0 : Nat) : Int))), .inr (.inl (((9 : Nat) : Int) - ((0 : Nat) : Int)))] M3) (fun M5 r6 =>
      cond (gEq r6 0) (
        some (M5, some (.inl ((-3))))) (
        cond (gEq (M5 81 5) 6) (
          some (M5, some (.inl ((-5))))) (
          gIf (gInb (M5 81 5) 6) (
          gIf (gInb (gU M5 85 (gIx (M5 81 5)) a0 81 5) 6) (
          gIf (gInb (gU (gU M5 85 (gIx (M5 81 5)) a0) 86 (gIx (gU M5 85 (gIx (M5 81 5)) a0 81 5)) a1 81 5) 6) (
          some (gU (gU (gU (gU M5 85 (gIx (M5 81 5)) a0) 86 (gIx (gU M5 85 (gIx (M5 81 5)) a0 81 5)) a1) 87 (gIx (gU (gU M5 85 (gIx (M5 81 5)) a0) 86 (gIx (gU M5 85 (gIx (M5 81 5)) a0 81 5)) a1 81 5)) a2) 81 5 ((gU (gU (gU M5 85 (gIx (M5 81 5)) a0) 86 (gIx (gU M5 85 (gIx (M5 81 5)) a0 81 5)) a1) 87 (gIx (gU (gU M5 85 (gIx (M5 81 5)) a0) 86 (gIx (gU M5 85 (gIx (M5 81 5)) a0 81 5)) a1 81 5)) a2 81 5) + 1), some (.inl (gU (gU (gU (gU M5 85 (gIx (M5 81 5)) a0) 86 (gIx (gU M5 85 (gIx (M5 81 5)) a0 81 5)) a1) 87 (gIx (gU (gU M5 85 (gIx (M5 81 5)) a0) 86 (gIx (gU M5 85 (gIx (M5 81 5)) a0 81 5)) a1 81 5)) a2) 81 5 ((gU (gU (gU M5 85 (gIx (M5 81 5)) a0) 86 (gIx (gU M5 85 (gIx (M5 81 5)) a0 81 5)) a1) 87 (gIx (gU (gU M5 85 (gIx (M5 81 5)) a0) 86 (gIx (gU M5 85 (gIx (M5 81 5)) a0 81 5)) a1 81 5)) a2 81 5) + 1) 81 5))))))))))))) := rfl
set_option maxRecDepth 20000 in
set_option maxHeartbeats 4000000 in
theorem q_X10_forget (N d : Nat)  (M : gM) : gEv N (d + 1) 157 [.inr (.inr (82))] M =
  some (gU M 81 5 0, some (.inl (M 81 5))) := rfl
noncomputable def L_X10_stepBy_13 (C : gCl) (n : Nat) (x1 : Int) (x2 : Int) (x3 : Int) (x4 : Int) (M : gM) : Option gR := gRun gLay C (fun M v => some (M, v)) gC_X10_stepBy gH_X10_stepBy n 13 [some (.inr (.inr (82))), some (.inl x1), some (.inl x2), some (.inl x3), some (.inl x4)] [] M
set_option maxRecDepth 20000 in
set_option maxHeartbeats 4000000 in
theorem q_X10_stepBy_13 (C : gCl) (n : Nat) (x1 : Int) (x2 : Int) (x3 : Int) (x4 : Int) (M : gM) : L_X10_stepBy_13 C (n + 1) x1 x2 x3 x4 M =
  cond (gLt x4 x3) (
    gCi (C 121 [.inl x2] M) (fun M5 r6 =>
    gCv (C 123 [.inr (.inr (82)), .inl 414, .inl x1, .inl r6] M5) (fun M7 =>
    L_X10_stepBy_13 C n x1 x2 x3 (x4 + 1) M7))) (
    gCi (C 119 [.inr (.inr (82)), .inl 414, .inl x1, .inl x2] M) (fun M1 r2 =>
    gCi (C 122 [.inl r2] M1) (fun M3 r4 =>
    some (M3, some (.inl r4))))) := rfl
set_option maxRecDepth 20000 in
set_option maxHeartbeats 4000000 in
theorem q_X10_stepBy (N d : Nat) (a0 : Int) (a1 : Int) (a2 : Int) (M : gM) : gEv N (d + 1) 158 [.inr (.inr (82)), .inl a0, .inl a1, .inl a2] M =
  gCv ((gEv N d) 114 [.inr (.inr (82)), .inl 0, .inl 414, .inl 29] M) (fun M1 =>
  L_X10_stepBy_13 (gEv N d) N a0 a1 a2 0 M1) := rfl
noncomputable def L_X10_kinds_35 (C : gCl) (n : Nat) (x1 : Int) (x2 : Int) (x3 : Int) (x4 : Int) (x5 : Int) (x6 : Int) (M : gM) : Option gR := gRun gLay C (fun M v => some (M, v)) gC_X10_kinds gH_X10_kinds n 35 [some (.inr (.inr (82))), some (.inl x1), some (.inl x2), some (.inl x3), some (.inl x4), some (.inl x5), some (.inl x6), none, none, none] [] M
noncomputable def L_X10_kinds_50 (C : gCl) (n : Nat) (x1 : Int) (x2 : Int) (x3 : Int) (x4 : Int) (x5 : Int) (x6 : Int) (x7 : Int) (x8 : Int) (x9 : Int) (M : gM) : Option gR := gRun gLay C (fun M v => some (M, v)) gC_X10_kinds gH_X10_kinds n 50 [some (.inr (.inr (82))), some (.inl x1), some (.inl x2), some (.inl x3), some (.inl x4), some (.inl x5), some (.inl x6), some (.inl x7), some (.inl x8), some (.inl x9)] [] M
noncomputable def L_X10_kinds_129 (C : gCl) (n : Nat) (x1 : Int) (x2 : Int) (x3 : Int) (x4 : Int) (x5 : Int) (x6 : Int) (x7 : Int) (x8 : Int) (x9 : Int) (s0 : Int) (s1 : Int) (M : gM) : Option gR := gRun gLay C (fun M v => some (M, v)) gC_X10_kinds gH_X10_kinds n 129 [some (.inr (.inr (82))), some (.inl x1), some (.inl x2), some (.inl x3), some (.inl x4), some (.inl x5), some (.inl x6), some (.inl x7), some (.inl x8), some (.inl x9)] [.inl s0, .inl s1] M
set_option maxRecDepth 20000 in
set_option maxHeartbeats 4000000 in
theorem q_X10_kinds_35 (C : gCl) (n : Nat) (x1 : Int) (x2 : Int) (x3 : Int) (x4 : Int) (x5 : Int) (x6 : Int) (M : gM) : L_X10_kinds_35 C (n + 1) x1 x2 x3 x4 x5 x6 M =
  cond (gLt x6 5) (
    L_X10_kinds_50 C n x1 x2 x3 x4 x5 x6 0 0 0 M) (
    cond (gEq x2 0) (
      some (M, some (.inl x3))) (
      some (M, some (.inl x4)))) := rfl
set_option maxRecDepth 20000 in
set_option maxHeartbeats 4000000 in
theorem q_X10_kinds_50 (C : gCl) (n : Nat) (x1 : Int) (x2 : Int) (x3 : Int) (x4 : Int) (x5 : Int) (x6 : Int) (x7 : Int) (x8 : Int) (x9 : Int) (M : gM) : L_X10_kinds_50 C (n + 1) x1 x2 x3 x4 x5 x6 x7 x8 x9 M =
  cond (gLt x9 (M 81 5)) (
    gIf (gInb x9 6) (
    cond (gEq (M 85 (gIx x9)) x1) (
      gIf (gInb x9 6) (
      gCi (C 158 [.inr (.inr (82)), .inl x1, .inl x6, .inl (M 86 (gIx x9))] M) (fun M1 r2 =>
      gIf (gInb x9 6) (
      cond (gEq r2 (M1 87 (gIx x9))) (
        L_X10_kinds_50 C n x1 x2 x3 x4 x5 x6 (x7 + 1) (x8 + 1) (x9 + 1) M1) (
        L_X10_kinds_50 C n x1 x2 x3 x4 x5 x6 (x7 + 1) (x8 + 0) (x9 + 1) M1))))) (
      L_X10_kinds_50 C n x1 x2 x3 x4 x5 x6 x7 x8 (x9 + 1) M))) (
    cond (gEq x7 x8) (
      L_X10_kinds_129 C n x1 x2 x3 x4 x5 x6 x7 x8 x9 (gShl 1 x6) x3 M) (
      L_X10_kinds_129 C n x1 x2 x3 x4 x5 x6 x7 x8 x9 0 x3 M)) := rfl
set_option maxRecDepth 20000 in
set_option maxHeartbeats 4000000 in
theorem q_X10_kinds_129 (C : gCl) (n : Nat) (x1 : Int) (x2 : Int) (x3 : Int) (x4 : Int) (x5 : Int) (x6 : Int) (x7 : Int) (x8 : Int) (x9 : Int) (s0 : Int) (s1 : Int) (M : gM) : L_X10_kinds_129 C (n + 1) x1 x2 x3 x4 x5 x6 x7 x8 x9 s0 s1 M =
  cond (gLt x5 x8) (
    cond (gLt x5 x8) (
      L_X10_kinds_35 C n x1 x2 (gOr s1 s0) x6 x8 (x6 + 1) M) (
      L_X10_kinds_35 C n x1 x2 (gOr s1 s0) x6 x5 (x6 + 1) M)) (
    cond (gLt x5 x8) (
      L_X10_kinds_35 C n x1 x2 (gOr s1 s0) x4 x8 (x6 + 1) M) (
      L_X10_kinds_35 C n x1 x2 (gOr s1 s0) x4 x5 (x6 + 1) M)) := rfl
set_option maxRecDepth 20000 in
set_option maxHeartbeats 4000000 in
theorem q_X10_kinds (N d : Nat) (a0 : Int) (a1 : Int) (M : gM) : gEv N (d + 1) 159 [.inr (.inr (82)), .inl a0, .inl a1] M =
  gCi ((gEv N d) 116 [.inr (.inr (82)), .inl a0] M) (fun M1 r2 =>
  cond (gEq r2 0) (
    some (M1, some (.inl ((-2))))) (
    gCi ((gEv N d) 99 [.inr (.inl (gW a1)), .inr (.inl (((0 : Nat) : Int))), .inr (.inl (((1 : Nat) : Int)))] M1) (fun M3 r4 =>
    cond (gEq r4 0) (
      some (M3, some (.inl ((-3))))) (
      L_X10_kinds_35 (gEv N d) N a0 a1 0 ((-1)) ((-1)) 0 M3)))) := rfl
set_option maxRecDepth 20000 in
set_option maxHeartbeats 4000000 in
theorem q_X10_isDrawer (N d : Nat) (a0 : Int) (M : gM) : gEv N (d + 1) 160 [.inl a0] M =
  gCi ((gEv N d) 99 [.inr (.inl (gW a0)), .inr (.inl (((0 : Nat) : Int))), .inr (.inl (((3 : Nat) : Int) - ((0 : Nat) : Int)))] M) (fun M1 r2 =>
  gIf (gB01 r2) (some (M1, some (.inl r2)))) := rfl
noncomputable def L_X10_drawer_35 (C : gCl) (n : Nat) (x1 : Int) (x2 : Int) (x3 : Int) (M : gM) : Option gR := gRun gLay C (fun M v => some (M, v)) gC_X10_drawer gH_X10_drawer n 35 [some (.inr (.inr (82))), some (.inl x1), some (.inl x2), some (.inl x3)] [] M
set_option maxRecDepth 20000 in
set_option maxHeartbeats 4000000 in
theorem q_X10_drawer_35 (C : gCl) (n : Nat) (x1 : Int) (x2 : Int) (x3 : Int) (M : gM) : L_X10_drawer_35 C (n + 1) x1 x2 x3 M =
  cond (gLt x3 10) (
    gIf (gInb ((10 * x1) + x3) 40) (
    L_X10_drawer_35 C n x1 x2 (x3 + 1) (gU M 89 (gIx ((10 * x1) + x3)) ((-1))))) (
    some (M, some (.inl x2))) := rfl
set_option maxRecDepth 20000 in
set_option maxHeartbeats 4000000 in
theorem q_X10_drawer (N d : Nat) (a0 : Int) (a1 : Int) (M : gM) : gEv N (d + 1) 161 [.inr (.inr (82)), .inl a0, .inl a1] M =
  gCi ((gEv N d) 160 [.inl a0] M) (fun M1 r2 =>
  cond (gEq r2 0) (
    some (M1, some (.inl ((-2))))) (
    cond (gLt 10 a1) (
      some (M1, some (.inl ((-3))))) (
      cond (gLt a1 0) (
        some (M1, some (.inl ((-15))))) (
        gIf (gInb a0 4) (
        L_X10_drawer_35 (gEv N d) N a0 a1 0 (gU M1 88 (gIx a0) a1)))))) := rfl
set_option maxRecDepth 20000 in
set_option maxHeartbeats 4000000 in
theorem q_X10_noPlace (N d : Nat) (a0 : Int) (a1 : Int) (M : gM) : gEv N (d + 1) 162 [.inr (.inr (82)), .inl a0, .inl a1] M =
  gIf (gInb a0 4) (
  cond (gLt (M 88 (gIx a0)) 0) (
    some (M, some (.inl ((-11))))) (
    gIf (gInb a0 4) (
    gCi ((gEv N d) 99 [.inr (.inl (gW a1)), .inr (.inl (((0 : Nat) : Int))), .inr (.inl (gW ((M 88 (gIx a0)) - 1)))] M) (fun M1 r2 =>
    cond (gEq r2 0) (
      some (M1, some (.inl ((-12))))) (
      some (M1, some (.inl 0))))))) := rfl
noncomputable def L_X10_put_24 (C : gCl) (n : Nat) (x1 : Int) (x2 : Int) (x3 : Int) (x4 : Int) (M : gM) : Option gR := gRun gLay C (fun M v => some (M, v)) gC_X10_put gH_X10_put n 24 [some (.inr (.inr (82))), some (.inl x1), some (.inl x2), some (.inl x3), some (.inl x4), none] [] M
noncomputable def L_X10_put_55 (C : gCl) (n : Nat) (x1 : Int) (x2 : Int) (x3 : Int) (x4 : Int) (M : gM) : Option gR := gRun gLay C (fun M v => some (M, v)) gC_X10_put gH_X10_put n 55 [some (.inr (.inr (82))), some (.inl x1), some (.inl x2), some (.inl x3), some (.inl x4), none] [] M
noncomputable def L_X10_put_76 (C : gCl) (n : Nat) (x1 : Int) (x2 : Int) (x3 : Int) (x4 : Int) (M : gM) : Option gR := gRun gLay C (fun M v => some (M, v)) gC_X10_put gH_X10_put n 76 [some (.inr (.inr (82))), some (.inl x1), some (.inl x2), some (.inl x3), some (.inl x4), none] [] M
set_option maxRecDepth 20000 in
set_option maxHeartbeats 4000000 in
theorem q_X10_put_24 (C : gCl) (n : Nat) (x1 : Int) (x2 : Int) (x3 : Int) (x4 : Int) (M : gM) : L_X10_put_24 C (n + 1) x1 x2 x3 x4 M =
  gCi (C 99 [.inr (.inl (gW x3)), .inr (.inl (((0 : Nat) : Int))), .inr (.inl (((3 : Nat) : Int) - ((0 : Nat) : Int)))] M) (fun M1 r2 =>
  cond (gEq r2 0) (
    some (M1, some (.inl ((-3))))) (
    cond (gEq x3 0) (
      gCi (C 99 [.inr (.inl (gW x4)), .inr (.inl (((0 : Nat) : Int) - ((9999 : Nat) : Int))), .inr (.inl (((9999 : Nat) : Int) - ((0 : Nat) : Int)))] M1) (fun M3 r4 =>
      cond (gEq r4 0) (
        some (M3, some (.inl ((-3))))) (
        L_X10_put_55 C n x1 x2 x3 x4 M3))) (
      L_X10_put_55 C n x1 x2 x3 x4 M1))) := rfl
set_option maxRecDepth 20000 in
set_option maxHeartbeats 4000000 in
theorem q_X10_put_55 (C : gCl) (n : Nat) (x1 : Int) (x2 : Int) (x3 : Int) (x4 : Int) (M : gM) : L_X10_put_55 C (n + 1) x1 x2 x3 x4 M =
  cond (gEq x3 1) (
    gCi (C 99 [.inr (.inl (gW x4)), .inr (.inl (((0 : Nat) : Int))), .inr (.inl (((17575 : Nat) : Int) - ((0 : Nat) : Int)))] M) (fun M1 r2 =>
    cond (gEq r2 0) (
      some (M1, some (.inl ((-3))))) (
      L_X10_put_76 C n x1 x2 x3 x4 M1))) (
    L_X10_put_76 C n x1 x2 x3 x4 M) := rfl
set_option maxRecDepth 20000 in
set_option maxHeartbeats 4000000 in
theorem q_X10_put_76 (C : gCl) (n : Nat) (x1 : Int) (x2 : Int) (x3 : Int) (x4 : Int) (M : gM) : L_X10_put_76 C (n + 1) x1 x2 x3 x4 M =
  gCi (C 162 [.inr (.inr (82)), .inl x1, .inl x2] M) (fun M1 r2 =>
  cond (gEq r2 0) (
    cond (gEq x3 3) (
      gIf (gInb ((10 * x1) + x2) 40) (
      gIf (gInb ((10 * x1) + x2) 40) (
      some (gU (gU M1 89 (gIx ((10 * x1) + x2)) ((-1))) 90 (gIx ((10 * x1) + x2)) x4, some (.inl 1))))) (
      gIf (gInb ((10 * x1) + x2) 40) (
      gIf (gInb ((10 * x1) + x2) 40) (
      some (gU (gU M1 89 (gIx ((10 * x1) + x2)) x3) 90 (gIx ((10 * x1) + x2)) x4, some (.inl 1)))))) (
    some (M1, some (.inl r2)))) := rfl
set_option maxRecDepth 20000 in
set_option maxHeartbeats 4000000 in
theorem q_X10_put (N d : Nat) (a0 : Int) (a1 : Int) (a2 : Int) (a3 : Int) (M : gM) : gEv N (d + 1) 163 [.inr (.inr (82)), .inl a0, .inl a1, .inl a2, .inl a3] M =
  gCi ((gEv N d) 160 [.inl a0] M) (fun M1 r2 =>
  cond (gEq r2 0) (
    some (M1, some (.inl ((-2))))) (
    cond (gEq a2 2) (
      gCi ((gEv N d) 116 [.inr (.inr (82)), .inl a3] M1) (fun M3 r4 =>
      cond (gEq r4 0) (
        some (M3, some (.inl ((-2))))) (
        L_X10_put_24 (gEv N d) N a0 a1 a2 a3 M3))) (
      L_X10_put_24 (gEv N d) N a0 a1 a2 a3 M1))) := rfl
set_option maxRecDepth 20000 in
set_option maxHeartbeats 4000000 in
theorem q_X10_take (N d : Nat) (a0 : Int) (a1 : Int) (a2 : Int) (M : gM) : gEv N (d + 1) 164 [.inr (.inr (82)), .inl a0, .inl a1, .inl a2] M =
  gCi ((gEv N d) 160 [.inl a0] M) (fun M1 r2 =>
  cond (gEq r2 0) (
    some (M1, some (.inl ((-2))))) (
    gCi ((gEv N d) 99 [.inr (.inl (gW a2)), .inr (.inl (((0 : Nat) : Int))), .inr (.inl (((2 : Nat) : Int) - ((0 : Nat) : Int)))] M1) (fun M3 r4 =>
    cond (gEq r4 0) (
      some (M3, some (.inl ((-3))))) (
      gCi ((gEv N d) 162 [.inr (.inr (82)), .inl a0, .inl a1] M3) (fun M5 r6 =>
      cond (gEq r6 0) (
        gIf (gInb ((10 * a0) + a1) 40) (
        cond (gEq (M5 89 (gIx ((10 * a0) + a1))) ((-1))) (
          some (M5, some (.inl ((-13))))) (
          cond (gEq (M5 89 (gIx ((10 * a0) + a1))) a2) (
            cond (gEq a2 0) (
              gIf (gInb ((10 * a0) + a1) 40) (
              some (M5, some (.inl ((M5 90 (gIx ((10 * a0) + a1))) + (((50000 : Nat) : Int))))))) (
              gIf (gInb ((10 * a0) + a1) 40) (
              some (M5, some (.inl (M5 90 (gIx ((10 * a0) + a1)))))))) (
            some (M5, some (.inl ((-14)))))))) (
        some (M5, some (.inl r6)))))))) := rfl
set_option maxRecDepth 20000 in
set_option maxHeartbeats 4000000 in
theorem q_X10_isBehind (N d : Nat) (a0 : Int) (a1 : Int) (a2 : Int) (M : gM) : gEv N (d + 1) 165 [.inr (.inr (82)), .inl a0, .inl a1, .inl a2] M =
  cond (gLt a0 2) (
    cond (gLt a2 a1) (
      gIf (gB01 1) (some (M, some (.inl 1)))) (
      gIf (gB01 0) (some (M, some (.inl 0))))) (
    gCi ((gEv N d) 120 [.inr (.inr (82)), .inl 0, .inl a1] M) (fun M1 r2 =>
    gCi ((gEv N d) 120 [.inr (.inr (82)), .inl 0, .inl a2] M1) (fun M3 r4 =>
    cond (gLt r2 r4) (
      gIf (gB01 1) (some (M3, some (.inl 1)))) (
      cond (gEq r2 r4) (
        cond (gLt a2 a1) (
          gIf (gB01 1) (some (M3, some (.inl 1)))) (
          gIf (gB01 0) (some (M3, some (.inl 0))))) (
        gIf (gB01 0) (some (M3, some (.inl 0)))))))) := rfl
noncomputable def L_X10_tidy_29 (C : gCl) (n : Nat) (x1 : Int) (x2 : Int) (x3 : Int) (x4 : Int) (M : gM) : Option gR := gRun gLay C (fun M v => some (M, v)) gC_X10_tidy gH_X10_tidy n 29 [some (.inr (.inr (82))), some (.inl x1), some (.inl x2), some (.inl x3), some (.inl x4), none, none] [] M
noncomputable def L_X10_tidy_60 (C : gCl) (n : Nat) (x1 : Int) (x2 : Int) (x3 : Int) (x4 : Int) (M : gM) : Option gR := gRun gLay C (fun M v => some (M, v)) gC_X10_tidy gH_X10_tidy n 60 [some (.inr (.inr (82))), some (.inl x1), some (.inl x2), some (.inl x3), some (.inl x4), none, none] [] M
noncomputable def L_X10_tidy_65 (C : gCl) (n : Nat) (x1 : Int) (x2 : Int) (x3 : Int) (x4 : Int) (s0 : Int) (M : gM) : Option gR := gRun gLay C (fun M v => some (M, v)) gC_X10_tidy gH_X10_tidy n 65 [some (.inr (.inr (82))), some (.inl x1), some (.inl x2), some (.inl x3), some (.inl x4), none, none] [.inl s0] M
noncomputable def L_X10_tidy_129 (C : gCl) (n : Nat) (x1 : Int) (x2 : Int) (x3 : Int) (x4 : Int) (M : gM) : Option gR := gRun gLay C (fun M v => some (M, v)) gC_X10_tidy gH_X10_tidy n 129 [some (.inr (.inr (82))), some (.inl x1), some (.inl x2), some (.inl x3), some (.inl x4), none, none] [] M
noncomputable def L_X10_tidy_149 (C : gCl) (n : Nat) (x1 : Int) (x2 : Int) (x3 : Int) (x4 : Int) (x5 : Int) (M : gM) : Option gR := gRun gLay C (fun M v => some (M, v)) gC_X10_tidy gH_X10_tidy n 149 [some (.inr (.inr (82))), some (.inl x1), some (.inl x2), some (.inl x3), some (.inl x4), some (.inl x5), none] [] M
set_option maxRecDepth 20000 in
set_option maxHeartbeats 4000000 in
theorem q_X10_tidy_29 (C : gCl) (n : Nat) (x1 : Int) (x2 : Int) (x3 : Int) (x4 : Int) (M : gM) : L_X10_tidy_29 C (n + 1) x1 x2 x3 x4 M =
  gIf (gInb x1 4) (
  cond (gLt x4 (M 88 (gIx x1))) (
    cond (gEq x2 0) (
      gIf (gInb ((10 * x1) + x4) 40) (
      cond (gEq (M 89 (gIx ((10 * x1) + x4))) ((-1))) (
        L_X10_tidy_60 C n x1 x2 x3 x4 M) (
        L_X10_tidy_65 C n x1 x2 x3 x4 0 M))) (
      L_X10_tidy_60 C n x1 x2 x3 x4 M)) (
    cond (gEq x2 0) (
      cond (gEq x3 0) (
        L_X10_tidy_129 C n x1 x2 x3 1 M) (
        cond (gEq x2 0) (
          some (M, some (.inl ((-14))))) (
          some (M, some (.inl ((-13))))))) (
      cond (gEq x2 0) (
        some (M, some (.inl ((-14))))) (
        some (M, some (.inl ((-13)))))))) := rfl
set_option maxRecDepth 20000 in
set_option maxHeartbeats 4000000 in
theorem q_X10_tidy_60 (C : gCl) (n : Nat) (x1 : Int) (x2 : Int) (x3 : Int) (x4 : Int) (M : gM) : L_X10_tidy_60 C (n + 1) x1 x2 x3 x4 M =
  L_X10_tidy_65 C n x1 x2 x3 x4 1 M := rfl
set_option maxRecDepth 20000 in
set_option maxHeartbeats 4000000 in
theorem q_X10_tidy_65 (C : gCl) (n : Nat) (x1 : Int) (x2 : Int) (x3 : Int) (x4 : Int) (s0 : Int) (M : gM) : L_X10_tidy_65 C (n + 1) x1 x2 x3 x4 s0 M =
  cond (gEq x3 0) (
    gIf (gInb ((10 * x1) + x4) 40) (
    gIf (gInb (10 * x1) 40) (
    cond (gEq (M 89 (gIx ((10 * x1) + x4))) (M 89 (gIx (10 * x1)))) (
      L_X10_tidy_29 C n x1 s0 0 (x4 + 1) M) (
      L_X10_tidy_29 C n x1 s0 1 (x4 + 1) M)))) (
    L_X10_tidy_29 C n x1 s0 1 (x4 + 1) M) := rfl
set_option maxRecDepth 20000 in
set_option maxHeartbeats 4000000 in
theorem q_X10_tidy_129 (C : gCl) (n : Nat) (x1 : Int) (x2 : Int) (x3 : Int) (x4 : Int) (M : gM) : L_X10_tidy_129 C (n + 1) x1 x2 x3 x4 M =
  gIf (gInb x1 4) (
  cond (gLt x4 (M 88 (gIx x1))) (
    L_X10_tidy_149 C n x1 x2 x3 x4 ((10 * x1) + x4) M) (
    gIf (gInb x1 4) (
    some (M, some (.inl (M 88 (gIx x1))))))) := rfl
set_option maxRecDepth 20000 in
set_option maxHeartbeats 4000000 in
theorem q_X10_tidy_149 (C : gCl) (n : Nat) (x1 : Int) (x2 : Int) (x3 : Int) (x4 : Int) (x5 : Int) (M : gM) : L_X10_tidy_149 C (n + 1) x1 x2 x3 x4 x5 M =
  cond (gLt (10 * x1) x5) (
    gIf (gInb x5 40) (
    gIf (gInb (x5 - 1) 40) (
    gIf (gInb x5 40) (
    gCi (C 165 [.inr (.inr (82)), .inl (M 89 (gIx x5)), .inl (M 90 (gIx (x5 - 1))), .inl (M 90 (gIx x5))] M) (fun M1 r2 =>
    cond (gEq r2 0) (
      L_X10_tidy_129 C n x1 x2 x3 (x4 + 1) M1) (
      gIf (gInb x5 40) (
      gIf (gInb (x5 - 1) 40) (
      gIf (gInb x5 40) (
      gIf (gInb (x5 - 1) 40) (
      L_X10_tidy_149 C n x1 x2 x3 x4 (x5 + (-1)) (gU (gU M1 90 (gIx x5) (M1 90 (gIx (x5 - 1)))) 90 (gIx (x5 - 1)) (M1 90 (gIx x5))))))))))))) (
    L_X10_tidy_129 C n x1 x2 x3 (x4 + 1) M) := rfl
set_option maxRecDepth 20000 in
set_option maxHeartbeats 4000000 in
theorem q_X10_tidy (N d : Nat) (a0 : Int) (M : gM) : gEv N (d + 1) 166 [.inr (.inr (82)), .inl a0] M =
  gCi ((gEv N d) 160 [.inl a0] M) (fun M1 r2 =>
  cond (gEq r2 0) (
    some (M1, some (.inl ((-2))))) (
    gIf (gInb a0 4) (
    cond (gLt (M1 88 (gIx a0)) 0) (
      some (M1, some (.inl ((-11))))) (
      L_X10_tidy_29 (gEv N d) N a0 0 0 0 M1)))) := rfl
set_option maxRecDepth 20000 in
set_option maxHeartbeats 4000000 in
theorem q_X10_isSpan (N d : Nat) (a0 : Int) (a1 : Int) (a2 : Int) (M : gM) : gEv N (d + 1) 167 [.inr (.inr (82)), .inl a0, .inl a1, .inl a2] M =
  cond (gLt a1 0) (
    gIf (gB01 0) (some (M, some (.inl 0)))) (
    cond (gLt a2 0) (
      gIf (gB01 0) (some (M, some (.inl 0)))) (
      gIf (gInb a0 4) (
      cond (gLt 0 (gLc ((gW a1) + (gW a2)) (gW (M 88 (gIx a0))))) (
        gIf (gB01 0) (some (M, some (.inl 0)))) (
        gIf (gB01 1) (some (M, some (.inl 1))))))) := rfl
noncomputable def L_X10_copy_67 (C : gCl) (n : Nat) (x1 : Int) (x2 : Int) (x3 : Int) (x4 : Int) (x5 : Int) (x6 : Int) (M : gM) : Option gR := gRun gLay C (fun M v => some (M, v)) gC_X10_copy gH_X10_copy n 67 [some (.inr (.inr (82))), some (.inl x1), some (.inl x2), some (.inl x3), some (.inl x4), some (.inl x5), some (.inl x6)] [] M
noncomputable def L_X10_copy_125 (C : gCl) (n : Nat) (x1 : Int) (x2 : Int) (x3 : Int) (x4 : Int) (x5 : Int) (x6 : Int) (M : gM) : Option gR := gRun gLay C (fun M v => some (M, v)) gC_X10_copy gH_X10_copy n 125 [some (.inr (.inr (82))), some (.inl x1), some (.inl x2), some (.inl x3), some (.inl x4), some (.inl x5), some (.inl x6)] [] M
set_option maxRecDepth 20000 in
set_option maxHeartbeats 4000000 in
theorem q_X10_copy_67 (C : gCl) (n : Nat) (x1 : Int) (x2 : Int) (x3 : Int) (x4 : Int) (x5 : Int) (x6 : Int) (M : gM) : L_X10_copy_67 C (n + 1) x1 x2 x3 x4 x5 x6 M =
  cond (gLt x6 x5) (
    gIf (gInb (((10 * x1) + x2) + x6) 40) (
    gIf (gInb x6 10) (
    gIf (gInb (((10 * x1) + x2) + x6) 40) (
    gIf (gInb x6 10) (
    L_X10_copy_67 C n x1 x2 x3 x4 x5 (x6 + 1) (gU (gU M 105 (gIx x6) (M 89 (gIx (((10 * x1) + x2) + x6)))) 106 (gIx x6) ((gU M 105 (gIx x6) (M 89 (gIx (((10 * x1) + x2) + x6)))) 90 (gIx (((10 * x1) + x2) + x6))))))))) (
    L_X10_copy_125 C n x1 x2 x3 x4 x5 0 M) := rfl
set_option maxRecDepth 20000 in
set_option maxHeartbeats 4000000 in
theorem q_X10_copy_125 (C : gCl) (n : Nat) (x1 : Int) (x2 : Int) (x3 : Int) (x4 : Int) (x5 : Int) (x6 : Int) (M : gM) : L_X10_copy_125 C (n + 1) x1 x2 x3 x4 x5 x6 M =
  cond (gLt x6 x5) (
    gIf (gInb x6 10) (
    gIf (gInb (((10 * x3) + x4) + x6) 40) (
    gIf (gInb x6 10) (
    gIf (gInb (((10 * x3) + x4) + x6) 40) (
    L_X10_copy_125 C n x1 x2 x3 x4 x5 (x6 + 1) (gU (gU M 89 (gIx (((10 * x3) + x4) + x6)) (M 105 (gIx x6))) 90 (gIx (((10 * x3) + x4) + x6)) ((gU M 89 (gIx (((10 * x3) + x4) + x6)) (M 105 (gIx x6))) 106 (gIx x6)))))))) (
    some (M, some (.inl x5))) := rfl
set_option maxRecDepth 20000 in
set_option maxHeartbeats 4000000 in
theorem q_X10_copy (N d : Nat) (a0 : Int) (a1 : Int) (a2 : Int) (a3 : Int) (a4 : Int) (M : gM) : gEv N (d + 1) 168 [.inr (.inr (82)), .inl a0, .inl a1, .inl a2, .inl a3, .inl a4] M =
  gCi ((gEv N d) 160 [.inl a0] M) (fun M1 r2 =>
  cond (gEq r2 0) (
    some (M1, some (.inl ((-2))))) (
    gCi ((gEv N d) 160 [.inl a2] M1) (fun M3 r4 =>
    cond (gEq r4 0) (
      some (M3, some (.inl ((-2))))) (
      gIf (gInb a0 4) (
      cond (gLt (M3 88 (gIx a0)) 0) (
        some (M3, some (.inl ((-11))))) (
        gIf (gInb a2 4) (
        cond (gLt (M3 88 (gIx a2)) 0) (
          some (M3, some (.inl ((-11))))) (
          gCi ((gEv N d) 167 [.inr (.inr (82)), .inl a0, .inl a1, .inl a4] M3) (fun M5 r6 =>
          cond (gEq r6 0) (
            some (M5, some (.inl ((-12))))) (
            gCi ((gEv N d) 167 [.inr (.inr (82)), .inl a2, .inl a3, .inl a4] M5) (fun M7 r8 =>
            cond (gEq r8 0) (
              some (M7, some (.inl ((-12))))) (
              L_X10_copy_67 (gEv N d) N a0 a1 a2 a3 a4 0 M7)))))))))))) := rfl
noncomputable def L_X10_drop_26 (C : gCl) (n : Nat) (x1 : Int) (x2 : Int) (x3 : Int) (M : gM) : Option gR := gRun gLay C (fun M v => some (M, v)) gC_X10_drop gH_X10_drop n 26 [some (.inr (.inr (82))), some (.inl x1), some (.inl x2), some (.inl x3)] [] M
set_option maxRecDepth 20000 in
set_option maxHeartbeats 4000000 in
theorem q_X10_drop_26 (C : gCl) (n : Nat) (x1 : Int) (x2 : Int) (x3 : Int) (M : gM) : L_X10_drop_26 C (n + 1) x1 x2 x3 M =
  gIf (gInb x1 4) (
  cond (gLt x3 (M 88 (gIx x1))) (
    gIf (gInb ((10 * x1) + x3) 40) (
    cond (gEq (M 89 (gIx ((10 * x1) + x3))) ((-1))) (
      L_X10_drop_26 C n x1 (x2 + 0) (x3 + 1) M) (
      L_X10_drop_26 C n x1 (x2 + 1) (x3 + 1) M))) (
    gIf (gInb x1 4) (
    some (gU M 88 (gIx x1) ((-1)), some (.inl x2))))) := rfl
set_option maxRecDepth 20000 in
set_option maxHeartbeats 4000000 in
theorem q_X10_drop (N d : Nat) (a0 : Int) (M : gM) : gEv N (d + 1) 169 [.inr (.inr (82)), .inl a0] M =
  gCi ((gEv N d) 160 [.inl a0] M) (fun M1 r2 =>
  cond (gEq r2 0) (
    some (M1, some (.inl ((-2))))) (
    gIf (gInb a0 4) (
    cond (gLt (M1 88 (gIx a0)) 0) (
      some (M1, some (.inl ((-11))))) (
      L_X10_drop_26 (gEv N d) N a0 0 0 M1)))) := rfl
noncomputable def L_X10_goIn_4 (C : gCl) (n : Nat) (x1 : Int) (x2 : Int) (M : gM) : Option gR := gRun gLay C (fun M v => some (M, v)) gC_X10_goIn gH_X10_goIn n 4 [some (.inr (.inr (82))), some (.inl x1), some (.inl x2)] [] M
set_option maxRecDepth 20000 in
set_option maxHeartbeats 4000000 in
theorem q_X10_goIn_4 (C : gCl) (n : Nat) (x1 : Int) (x2 : Int) (M : gM) : L_X10_goIn_4 C (n + 1) x1 x2 M =
  gIf (gInb 29 443) (
  cond (gLt x2 (M 82 (gIx 29))) (
    gCi (C 120 [.inr (.inr (82)), .inl 0, .inl x2] M) (fun M1 r2 =>
    cond (gLt 0 r2) (
      L_X10_goIn_4 C n (x1 + 1) (x2 + 1) M1) (
      L_X10_goIn_4 C n (x1 + 0) (x2 + 1) M1))) (
    some (M, some (.inl x1)))) := rfl
set_option maxRecDepth 20000 in
set_option maxHeartbeats 4000000 in
theorem q_X10_goIn (N d : Nat)  (M : gM) : gEv N (d + 1) 170 [.inr (.inr (82))] M =
  L_X10_goIn_4 (gEv N d) N 0 0 M := rfl
noncomputable def L_X10_allLoads_4 (C : gCl) (n : Nat) (x1 : Int) (x2 : Int) (M : gM) : Option gR := gRun gLay C (fun M v => some (M, v)) gC_X10_allLoads gH_X10_allLoads n 4 [some (.inr (.inr (82))), some (.inl x1), some (.inl x2)] [] M
set_option maxRecDepth 20000 in
set_option maxHeartbeats 4000000 in
theorem q_X10_allLoads_4 (C : gCl) (n : Nat) (x1 : Int) (x2 : Int) (M : gM) : L_X10_allLoads_4 C (n + 1) x1 x2 M =
  gIf (gInb 29 443) (
  cond (gLt x2 (M 82 (gIx 29))) (
    gCi (C 120 [.inr (.inr (82)), .inl 0, .inl x2] M) (fun M1 r2 =>
    L_X10_allLoads_4 C n (x1 + r2) (x2 + 1) M1)) (
    some (M, some (.inl x1)))) := rfl
set_option maxRecDepth 20000 in
set_option maxHeartbeats 4000000 in
theorem q_X10_allLoads (N d : Nat)  (M : gM) : gEv N (d + 1) 171 [.inr (.inr (82))] M =
  L_X10_allLoads_4 (gEv N d) N 0 0 M := rfl
noncomputable def L_X10_allGriefs_4 (C : gCl) (n : Nat) (x1 : Int) (x2 : Int) (M : gM) : Option gR := gRun gLay C (fun M v => some (M, v)) gC_X10_allGriefs gH_X10_allGriefs n 4 [some (.inr (.inr (82))), some (.inl x1), some (.inl x2)] [] M
set_option maxRecDepth 20000 in
set_option maxHeartbeats 4000000 in
theorem q_X10_allGriefs_4 (C : gCl) (n : Nat) (x1 : Int) (x2 : Int) (M : gM) : L_X10_allGriefs_4 C (n + 1) x1 x2 M =
  gIf (gInb 29 443) (
  cond (gLt x2 (M 82 (gIx 29))) (
    gIf (gInb (21 + x2) 443) (
    L_X10_allGriefs_4 C n (x1 + (M 82 (gIx (21 + x2)))) (x2 + 1) M)) (
    some (M, some (.inl x1)))) := rfl
set_option maxRecDepth 20000 in
set_option maxHeartbeats 4000000 in
theorem q_X10_allGriefs (N d : Nat)  (M : gM) : gEv N (d + 1) 172 [.inr (.inr (82))] M =
  L_X10_allGriefs_4 (gEv N d) N 0 0 M := rfl
noncomputable def L_X10_drawersThere_4 (C : gCl) (n : Nat) (x1 : Int) (x2 : Int) (M : gM) : Option gR := gRun gLay C (fun M v => some (M, v)) gC_X10_drawersThere gH_X10_drawersThere n 4 [some (.inr (.inr (82))), some (.inl x1), some (.inl x2)] [] M
set_option maxRecDepth 20000 in
set_option maxHeartbeats 4000000 in
theorem q_X10_drawersThere_4 (C : gCl) (n : Nat) (x1 : Int) (x2 : Int) (M : gM) : L_X10_drawersThere_4 C (n + 1) x1 x2 M =
  cond (gLt x2 4) (
    gIf (gInb x2 4) (
    cond (gLt (M 88 (gIx x2)) 0) (
      L_X10_drawersThere_4 C n (x1 + 0) (x2 + 1) M) (
      L_X10_drawersThere_4 C n (x1 + 1) (x2 + 1) M))) (
    some (M, some (.inl x1))) := rfl
set_option maxRecDepth 20000 in
set_option maxHeartbeats 4000000 in
theorem q_X10_drawersThere (N d : Nat)  (M : gM) : gEv N (d + 1) 173 [.inr (.inr (82))] M =
  L_X10_drawersThere_4 (gEv N d) N 0 0 M := rfl
set_option maxRecDepth 20000 in
set_option maxHeartbeats 4000000 in
theorem q_X10_count (N d : Nat) (a0 : Int) (M : gM) : gEv N (d + 1) 174 [.inr (.inr (82)), .inl a0] M =
  cond (gEq a0 0) (
    gIf (gInb 29 443) (
    some (M, some (.inl (M 82 (gIx 29)))))) (
  cond (gEq a0 1) (
    gIf (gInb 37 443) (
    some (M, some (.inl (M 82 (gIx 37)))))) (
  cond (gEq a0 2) (
    gIf (gInb 28 443) (
    some (M, some (.inl (M 82 (gIx 28)))))) (
  cond (gEq a0 3) (
    gCi ((gEv N d) 170 [.inr (.inr (82))] M) (fun M1 r2 =>
    some (M1, some (.inl r2)))) (
  cond (gEq a0 4) (
    gCi ((gEv N d) 171 [.inr (.inr (82))] M) (fun M3 r4 =>
    some (M3, some (.inl r4)))) (
  cond (gEq a0 5) (
    gCi ((gEv N d) 172 [.inr (.inr (82))] M) (fun M5 r6 =>
    some (M5, some (.inl r6)))) (
  cond (gEq a0 6) (
    some (M, some (.inl (M 81 5)))) (
  cond (gEq a0 7) (
    gCi ((gEv N d) 173 [.inr (.inr (82))] M) (fun M7 r8 =>
    some (M7, some (.inl r8)))) (
  cond (gEq a0 8) (
    some (M, some (.inl (M 81 1)))) (
  cond (gEq a0 9) (
    some (M, some (.inl (M 81 4)))) (
    some (M, some (.inl ((-3)))))))))))))) := rfl
