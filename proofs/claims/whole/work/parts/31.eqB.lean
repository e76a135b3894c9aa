-- 31: equations (by program)
set_option maxRecDepth 20000 in
set_option maxHeartbeats 4000000 in
theorem q_X9_write (N d : Nat) (a0 : Int) (M : gM) : gEv N (d + 1) 53 [.inr (.inr (1)), .inl a0] M =
  gCi ((gEv N d) 91 [.inl a0, .inl 0, .inl 255] M) (fun M1 r2 =>
  cond (gEq r2 0) (
    some (M1, some (.inl ((-3))))) (
    cond (gLt (M1 1 1) 200) (
      gCv ((gEv N d) 38 [.inr (.inr (2)), .inl a0] M1) (fun M3 =>
      some (M3, some (.inl (M3 1 1))))) (
      some (M1, some (.inl ((-5))))))) := rfl
set_option maxRecDepth 20000 in
set_option maxHeartbeats 4000000 in
theorem q_X9_erase (N d : Nat)  (M : gM) : gEv N (d + 1) 54 [.inr (.inr (1))] M =
  some (gU M 1 1 0, some (.inl (M 1 1))) := rfl
set_option maxRecDepth 20000 in
set_option maxHeartbeats 4000000 in
theorem q_X9_fault (N d : Nat)  (M : gM) : gEv N (d + 1) 55 [.inr (.inr (1))] M =
  gCi ((gEv N d) 39 [.inr (.inr (2)), .inl (M 6 0), .inl (M 17 0)] M) (fun M1 r2 =>
  some (M1, some (.inl r2))) := rfl
noncomputable def L_X9_house_30 (C : gCl) (n : Nat) (x1 : Int) (M : gM) : Option gR := gRun gLay C (fun M v => some (M, v)) gC_X9_house gH_X9_house n 30 [some (.inr (.inr (1))), some (.inl x1)] [] M
set_option maxRecDepth 20000 in
set_option maxHeartbeats 4000000 in
theorem q_X9_house_30 (C : gCl) (n : Nat) (x1 : Int) (M : gM) : L_X9_house_30 C (n + 1) x1 M =
  cond (gLt x1 (M 1 2)) (
    gCv (C 87 [.inr (.inr (1)), .inl x1] M) (fun M2 =>
    L_X9_house_30 C n (x1 + 1) M2)) (
    gCv (C 88 [.inr (.inr (1))] M) (fun M1 =>
    some (M1, some (.inl (M1 1 2))))) := rfl
set_option maxRecDepth 20000 in
set_option maxHeartbeats 4000000 in
theorem q_X9_house (N d : Nat)  (M : gM) : gEv N (d + 1) 56 [.inr (.inr (1))] M =
  gCi ((gEv N d) 39 [.inr (.inr (2)), .inl (M 6 0), .inl (M 17 0)] M) (fun M1 r2 =>
  cond (gEq r2 ((-1))) (
    L_X9_house_30 (gEv N d) N 0 M1) (
    some (M1, some (.inl ((-4)))))) := rfl
set_option maxRecDepth 20000 in
set_option maxHeartbeats 4000000 in
theorem q_X9_person (N d : Nat) (a0 : Int) (a1 : Int) (M : gM) : gEv N (d + 1) 57 [.inr (.inr (1)), .inl a0, .inl a1] M =
  gCi ((gEv N d) 24 [.inr (.inr (7)), .inl a0] M) (fun M1 r2 =>
  cond (gEq r2 0) (
    some (M1, some (.inl ((-2))))) (
    cond (gEq a1 0) (
      gIf (gInb a0 7) (
      some (M1, some (.inl (M1 7 (gIx a0)))))) (
    cond (gEq a1 1) (
      gCi ((gEv N d) 27 [.inr (.inr (7)), .inl a0, .inl 0] M1) (fun M3 r4 =>
      some (M3, some (.inl r4)))) (
    cond (gEq a1 2) (
      gIf (gInb a0 7) (
      some (M1, some (.inl (M1 9 (gIx a0)))))) (
    cond (gEq a1 3) (
      gIf (gInb a0 7) (
      gIf (gInb (M1 7 (gIx a0)) 5) (
      some (M1, some (.inl (((List.getD [4, 2, 4, 7, 1] (gIx (M1 7 (gIx a0))) 0 : Nat) : Int) - 1)))))) (
    cond (gEq a1 4) (
      gCi ((gEv N d) 29 [.inr (.inr (7)), .inl a0, .inl 0] M1) (fun M5 r6 =>
      some (M5, some (.inl r6)))) (
      some (M1, some (.inl ((-3))))))))))) := rfl
set_option maxRecDepth 20000 in
set_option maxHeartbeats 4000000 in
theorem q_X9_grief (N d : Nat) (a0 : Int) (a1 : Int) (M : gM) : gEv N (d + 1) 58 [.inr (.inr (1)), .inl a0, .inl a1] M =
  gCi ((gEv N d) 24 [.inr (.inr (7)), .inl a0] M) (fun M1 r2 =>
  cond (gEq r2 0) (
    some (M1, some (.inl ((-2))))) (
    gCi ((gEv N d) 91 [.inl a1, .inl 0, .inl 2] M1) (fun M3 r4 =>
    cond (gEq r4 0) (
      some (M3, some (.inl ((-3))))) (
      gIf (gInb a0 7) (
      cond (gLt a1 (M3 9 (gIx a0))) (
        gCi ((gEv N d) 8 [.inr (.inr (9)), .inl a0, .inl a1] M3) (fun M5 r6 =>
        some (M5, some (.inl r6)))) (
        some (M3, some (.inl ((-1)))))))))) := rfl
set_option maxRecDepth 20000 in
set_option maxHeartbeats 4000000 in
theorem q_X9_as (N d : Nat) (a0 : Int) (a1 : Int) (M : gM) : gEv N (d + 1) 59 [.inr (.inr (1)), .inl a0, .inl a1] M =
  gCi ((gEv N d) 24 [.inr (.inr (7)), .inl a0] M) (fun M1 r2 =>
  cond (gEq r2 0) (
    some (M1, some (.inl ((-2))))) (
    gCi ((gEv N d) 91 [.inl a1, .inl 0, .inl ((((6 : Nat) : Int)) - 1)] M1) (fun M3 r4 =>
    cond (gEq r4 0) (
      some (M3, some (.inl ((-3))))) (
      gIf (gInb a0 7) (
      gCi ((gEv N d) 94 [.inl (M3 7 (gIx a0)), .inl a1] M3) (fun M5 r6 =>
      cond (gEq r6 0) (
        some (M5, some (.inl ((-4))))) (
        gCi ((gEv N d) 27 [.inr (.inr (7)), .inl a0, .inl 0] M5) (fun M7 r8 =>
        some (M7, some (.inl r8)))))))))) := rfl
set_option maxRecDepth 20000 in
set_option maxHeartbeats 4000000 in
theorem q_X9_pair (N d : Nat) (a0 : Int) (a1 : Int) (M : gM) : gEv N (d + 1) 60 [.inr (.inr (1)), .inl a0, .inl a1] M =
  gCi ((gEv N d) 89 [.inr (.inr (1)), .inl a0, .inl a1] M) (fun M1 r2 =>
  cond (gEq r2 0) (
    some (M1, some (.inl ((-2))))) (
    cond (gLt (M1 14 0) 12) (
      gCv ((gEv N d) 23 [.inr (.inr (15)), .inl a0, .inl a1] M1) (fun M3 =>
      some (M3, some (.inl (M3 14 0))))) (
      some (M1, some (.inl ((-5))))))) := rfl
set_option maxRecDepth 20000 in
set_option maxHeartbeats 4000000 in
theorem q_X9_unpair (N d : Nat)  (M : gM) : gEv N (d + 1) 61 [.inr (.inr (1))] M =
  some (gU M 14 0 0, some (.inl (M 14 0))) := rfl
set_option maxRecDepth 20000 in
set_option maxHeartbeats 4000000 in
theorem q_X9_lent (N d : Nat) (a0 : Int) (M : gM) : gEv N (d + 1) 62 [.inr (.inr (1)), .inl a0] M =
  gCi ((gEv N d) 91 [.inl a0, .inl 1, .inl 12] M) (fun M1 r2 =>
  cond (gEq r2 0) (
    some (M1, some (.inl ((-3))))) (
    cond (gLt 999 ((M1 8 0) + a0)) (
      some (M1, some (.inl ((-5))))) (
      gCv ((gEv N d) 51 [.inr (.inr (21)), .inr (.inr (9))] M1) (fun M3 =>
      gCv ((gEv N d) 26 [.inr (.inr (7)), .inl a0] M3) (fun M4 =>
      some (M4, some (.inl (M4 8 0)))))))) := rfl
set_option maxRecDepth 20000 in
set_option maxHeartbeats 4000000 in
theorem q_X9_grieve (N d : Nat) (a0 : Int) (a1 : Int) (M : gM) : gEv N (d + 1) 63 [.inr (.inr (1)), .inl a0, .inl a1] M =
  gCi ((gEv N d) 24 [.inr (.inr (7)), .inl a0] M) (fun M1 r2 =>
  cond (gEq r2 0) (
    some (M1, some (.inl ((-2))))) (
    gCi ((gEv N d) 91 [.inl a1, .inl 1, .inl 99] M1) (fun M3 r4 =>
    cond (gEq r4 0) (
      some (M3, some (.inl ((-3))))) (
      gIf (gInb a0 7) (
      cond (gLt (M3 9 (gIx a0)) 3) (
        gCv ((gEv N d) 51 [.inr (.inr (21)), .inr (.inr (9))] M3) (fun M5 =>
        gCv ((gEv N d) 9 [.inr (.inr (9)), .inl a0, .inl a1] M5) (fun M6 =>
        gCi ((gEv N d) 27 [.inr (.inr (7)), .inl a0, .inl 0] M6) (fun M7 r8 =>
        some (M7, some (.inl r8)))))) (
        some (M3, some (.inl ((-5)))))))))) := rfl
set_option maxRecDepth 20000 in
set_option maxHeartbeats 4000000 in
theorem q_X9_comfort (N d : Nat) (a0 : Int) (M : gM) : gEv N (d + 1) 64 [.inr (.inr (1)), .inl a0] M =
  gCi ((gEv N d) 24 [.inr (.inr (7)), .inl a0] M) (fun M1 r2 =>
  cond (gEq r2 0) (
    some (M1, some (.inl ((-2))))) (
    gIf (gInb a0 7) (
    cond (gLt (M1 9 (gIx a0)) 1) (
      some (M1, some (.inl ((-4))))) (
      gCv ((gEv N d) 51 [.inr (.inr (21)), .inr (.inr (9))] M1) (fun M3 =>
      gCi ((gEv N d) 10 [.inr (.inr (9)), .inl a0] M3) (fun M4 r5 =>
      some (M4, some (.inl r5)))))))) := rfl
set_option maxRecDepth 20000 in
set_option maxHeartbeats 4000000 in
theorem q_X9_undo (N d : Nat)  (M : gM) : gEv N (d + 1) 65 [.inr (.inr (1))] M =
  cond (gLt (M 20 0) 1) (
    some (M, some (.inl ((-4))))) (
    gCv ((gEv N d) 52 [.inr (.inr (21)), .inr (.inr (9))] M) (fun M1 =>
    some (M1, some (.inl (M1 20 0))))) := rfl
set_option maxRecDepth 20000 in
set_option maxHeartbeats 4000000 in
theorem q_X9_keep (N d : Nat) (a0 : Int) (M : gM) : gEv N (d + 1) 66 [.inr (.inr (1)), .inl a0] M =
  gCi ((gEv N d) 91 [.inl a0, .inl 0, .inl 1] M) (fun M1 r2 =>
  cond (gEq r2 0) (
    some (M1, some (.inl ((-2))))) (
    gIf (gInb a0 2) (
    cond (gEq a0 ((1 : Nat) : Int)) (
      gCv ((gEv N d) 7 [.inr (.inr (51)), .inr (.inr (9))] M1) (fun M3 =>
      gIf (gInb a0 2) (gIf (gB01 1) (
      some (gU M3 53 (gIx a0) 1, some (.inl (gU M3 53 (gIx a0) 1 8 0))))))) (
    cond (gEq a0 ((0 : Nat) : Int)) (
      gCv ((gEv N d) 7 [.inr (.inr (48)), .inr (.inr (9))] M1) (fun M4 =>
      gIf (gInb a0 2) (gIf (gB01 1) (
      some (gU M4 53 (gIx a0) 1, some (.inl (gU M4 53 (gIx a0) 1 8 0))))))) (
    none))))) := rfl
set_option maxRecDepth 20000 in
set_option maxHeartbeats 4000000 in
theorem q_X9_back (N d : Nat) (a0 : Int) (M : gM) : gEv N (d + 1) 67 [.inr (.inr (1)), .inl a0] M =
  gCi ((gEv N d) 91 [.inl a0, .inl 0, .inl 1] M) (fun M1 r2 =>
  cond (gEq r2 0) (
    some (M1, some (.inl ((-2))))) (
    gIf (gInb a0 2) (
    cond (gEq (M1 53 (gIx a0)) 0) (
      some (M1, some (.inl ((-4))))) (
      gIf (gInb a0 2) (
      cond (gEq a0 ((1 : Nat) : Int)) (
        gCv ((gEv N d) 7 [.inr (.inr (9)), .inr (.inr (51))] M1) (fun M3 =>
        some (gU M3 20 0 0, some (.inl (gU M3 20 0 0 8 0))))) (
      cond (gEq a0 ((0 : Nat) : Int)) (
        gCv ((gEv N d) 7 [.inr (.inr (9)), .inr (.inr (48))] M1) (fun M4 =>
        some (gU M4 20 0 0, some (.inl (gU M4 20 0 0 8 0))))) (
      none))))))) := rfl
set_option maxRecDepth 20000 in
set_option maxHeartbeats 4000000 in
theorem q_X9_behind (N d : Nat) (a0 : Int) (a1 : Int) (a2 : Int) (M : gM) : gEv N (d + 1) 68 [.inr (.inr (1)), .inl a0, .inl a1, .inl a2] M =
  gCi ((gEv N d) 24 [.inr (.inr (7)), .inl a0] M) (fun M1 r2 =>
  cond (gEq r2 0) (
    some (M1, some (.inl ((-2))))) (
    gCi ((gEv N d) 91 [.inl a1, .inl 0, .inl 60] M1) (fun M3 r4 =>
    cond (gEq r4 0) (
      some (M3, some (.inl ((-3))))) (
      gCi ((gEv N d) 91 [.inl a2, .inl 0, .inl 1] M3) (fun M5 r6 =>
      cond (gEq r6 0) (
        some (M5, some (.inl ((-3))))) (
        gCi ((gEv N d) 27 [.inr (.inr (7)), .inl a0, .inl a1] M5) (fun M7 r8 =>
        cond (gEq a2 0) (
          some (M7, some (.inl r8))) (
          gCi ((gEv N d) 95 [.inl r8] M7) (fun M9 r10 =>
          some (M9, some (.inl r10))))))))))) := rfl
noncomputable def L_X9_enters_25 (C : gCl) (n : Nat) (x1 : Int) (x2 : Int) (x3 : Int) (M : gM) : Option gR := gRun gLay C (fun M v => some (M, v)) gC_X9_enters gH_X9_enters n 25 [some (.inr (.inr (1))), some (.inl x1), some (.inl x2), some (.inl x3)] [] M
set_option maxRecDepth 20000 in
set_option maxHeartbeats 4000000 in
theorem q_X9_enters_25 (C : gCl) (n : Nat) (x1 : Int) (x2 : Int) (x3 : Int) (M : gM) : L_X9_enters_25 C (n + 1) x1 x2 x3 M =
  cond (gLt x3 (M 6 0)) (
    gCi (C 29 [.inr (.inr (7)), .inl x3, .inl x2] M) (fun M1 r2 =>
    cond (gEq r2 x1) (
      some (M1, some (.inl x3))) (
      L_X9_enters_25 C n x1 x2 (x3 + 1) M1))) (
    some (M, some (.inl ((-1))))) := rfl
set_option maxRecDepth 20000 in
set_option maxHeartbeats 4000000 in
theorem q_X9_enters (N d : Nat) (a0 : Int) (a1 : Int) (M : gM) : gEv N (d + 1) 69 [.inr (.inr (1)), .inl a0, .inl a1] M =
  gCi ((gEv N d) 91 [.inl a0, .inl 0, .inl 6] M) (fun M1 r2 =>
  cond (gEq r2 0) (
    some (M1, some (.inl ((-3))))) (
    gCi ((gEv N d) 91 [.inl a1, .inl 0, .inl 60] M1) (fun M3 r4 =>
    cond (gEq r4 0) (
      some (M3, some (.inl ((-3))))) (
      L_X9_enters_25 (gEv N d) N a0 a1 0 M3)))) := rfl
noncomputable def L_X9_ahead_14 (C : gCl) (n : Nat) (x1 : Int) (x2 : Int) (x3 : Int) (M : gM) : Option gR := gRun gLay C (fun M v => some (M, v)) gC_X9_ahead gH_X9_ahead n 14 [some (.inr (.inr (1))), some (.inl x1), some (.inl x2), some (.inl x3)] [] M
set_option maxRecDepth 20000 in
set_option maxHeartbeats 4000000 in
theorem q_X9_ahead_14 (C : gCl) (n : Nat) (x1 : Int) (x2 : Int) (x3 : Int) (M : gM) : L_X9_ahead_14 C (n + 1) x1 x2 x3 M =
  cond (gLt 60 x3) (
    some (M, some (.inl ((-1))))) (
    gCi (C 28 [.inr (.inr (7)), .inl x1, .inl x2, .inl x3] M) (fun M1 r2 =>
    cond (gEq r2 0) (
      L_X9_ahead_14 C n x1 x2 (x3 + 1) M1) (
      some (M1, some (.inl x3))))) := rfl
set_option maxRecDepth 20000 in
set_option maxHeartbeats 4000000 in
theorem q_X9_ahead (N d : Nat) (a0 : Int) (a1 : Int) (M : gM) : gEv N (d + 1) 70 [.inr (.inr (1)), .inl a0, .inl a1] M =
  gCi ((gEv N d) 89 [.inr (.inr (1)), .inl a0, .inl a1] M) (fun M1 r2 =>
  cond (gEq r2 0) (
    some (M1, some (.inl ((-2))))) (
    L_X9_ahead_14 (gEv N d) N a0 a1 0 M1)) := rfl
noncomputable def L_X9_wrong_4 (C : gCl) (n : Nat) (x1 : Int) (x2 : Int) (M : gM) : Option gR := gRun gLay C (fun M v => some (M, v)) gC_X9_wrong gH_X9_wrong n 4 [some (.inr (.inr (1))), some (.inl x1), some (.inl x2)] [] M
set_option maxRecDepth 20000 in
set_option maxHeartbeats 4000000 in
theorem q_X9_wrong_4 (C : gCl) (n : Nat) (x1 : Int) (x2 : Int) (M : gM) : L_X9_wrong_4 C (n + 1) x1 x2 M =
  cond (gLt x2 (M 14 0)) (
    gIf (gInb x2 12) (
    gIf (gInb x2 12) (
    gCi (C 28 [.inr (.inr (7)), .inl (M 15 (gIx x2)), .inl (M 16 (gIx x2)), .inl 0] M) (fun M1 r2 =>
    cond (gEq r2 0) (
      L_X9_wrong_4 C n (x1 + 1) (x2 + 1) M1) (
      L_X9_wrong_4 C n x1 (x2 + 1) M1))))) (
    some (M, some (.inl x1))) := rfl
set_option maxRecDepth 20000 in
set_option maxHeartbeats 4000000 in
theorem q_X9_wrong (N d : Nat)  (M : gM) : gEv N (d + 1) 71 [.inr (.inr (1))] M =
  L_X9_wrong_4 (gEv N d) N 0 0 M := rfl
set_option maxRecDepth 20000 in
set_option maxHeartbeats 4000000 in
theorem q_X9_ranked (N d : Nat) (a0 : Int) (M : gM) : gEv N (d + 1) 72 [.inr (.inr (1)), .inl a0] M =
  gCi ((gEv N d) 91 [.inl a0, .inl ((-1)), .inl 6] M) (fun M1 r2 =>
  cond (gEq r2 0) (
    some (M1, some (.inl ((-3))))) (
    gCv ((gEv N d) 15 [.inr (.inr (59)), .inl (M1 6 0), .inr (.inr (15))] M1) (fun M3 =>
    gCi ((gEv N d) 16 [.inr (.inr (59))] M3) (fun M4 r5 =>
    cond (gEq a0 ((-1))) (
      some (M4, some (.inl r5))) (
      cond (gLt a0 (M4 6 0)) (
        gIf (gInb a0 7) (
        some (M4, some (.inl (M4 63 (gIx a0)))))) (
        some (M4, some (.inl ((-1)))))))))) := rfl
set_option maxRecDepth 20000 in
set_option maxHeartbeats 4000000 in
theorem q_X9_lines (N d : Nat)  (M : gM) : gEv N (d + 1) 73 [.inr (.inr (1))] M =
  gCv ((gEv N d) 15 [.inr (.inr (59)), .inl (M 6 0), .inr (.inr (15))] M) (fun M1 =>
  gCi ((gEv N d) 19 [.inr (.inr (59))] M1) (fun M2 r3 =>
  some (M2, some (.inl r3)))) := rfl
set_option maxRecDepth 20000 in
set_option maxHeartbeats 4000000 in
theorem q_X9_next (N d : Nat)  (M : gM) : gEv N (d + 1) 74 [.inr (.inr (1))] M =
  gCv ((gEv N d) 15 [.inr (.inr (59)), .inl (M 6 0), .inr (.inr (15))] M) (fun M1 =>
  gCi ((gEv N d) 20 [.inr (.inr (59))] M1) (fun M2 r3 =>
  some (M2, some (.inl r3)))) := rfl
noncomputable def L_X9_rooms_19 (C : gCl) (n : Nat) (x1 : Int) (x2 : Int) (M : gM) : Option gR := gRun gLay C (fun M v => some (M, v)) gC_X9_rooms gH_X9_rooms n 19 [some (.inr (.inr (1))), some (.inl x1), some (.inl x2), none] [] M
set_option maxRecDepth 20000 in
set_option maxHeartbeats 4000000 in
theorem q_X9_rooms_19 (C : gCl) (n : Nat) (x1 : Int) (x2 : Int) (M : gM) : L_X9_rooms_19 C (n + 1) x1 x2 M =
  gCi (C 91 [.inl x1, .inl 1, .inl 400] M) (fun M1 r2 =>
  cond (gEq r2 0) (
    some (M1, some (.inl ((-3))))) (
    gCi (C 13 [.inr (.inr (65)), .inr (.inr (7)), .inl x1] M1) (fun M3 r4 =>
    cond (gEq r4 ((-1))) (
      some (M3, some (.inl r4))) (
      cond (gEq x2 ((-1))) (
        some (M3, some (.inl r4))) (
        gIf (gInb x2 7) (
        some (M3, some (.inl (M3 66 (gIx x2)))))))))) := rfl
set_option maxRecDepth 20000 in
set_option maxHeartbeats 4000000 in
theorem q_X9_rooms (N d : Nat) (a0 : Int) (a1 : Int) (M : gM) : gEv N (d + 1) 75 [.inr (.inr (1)), .inl a0, .inl a1] M =
  cond (gEq a1 ((-1))) (
    L_X9_rooms_19 (gEv N d) N a0 a1 M) (
    gCi ((gEv N d) 24 [.inr (.inr (7)), .inl a1] M) (fun M1 r2 =>
    cond (gEq r2 0) (
      some (M1, some (.inl ((-2))))) (
      L_X9_rooms_19 (gEv N d) N a0 a1 M1))) := rfl
set_option maxRecDepth 20000 in
set_option maxHeartbeats 4000000 in
theorem q_X9_misread (N d : Nat) (a0 : Int) (a1 : Int) (a2 : Int) (a3 : Int) (M : gM) : gEv N (d + 1) 76 [.inr (.inr (1)), .inl a0, .inl a1, .inl a2, .inl a3] M =
  gCi ((gEv N d) 89 [.inr (.inr (1)), .inl a0, .inl a1] M) (fun M1 r2 =>
  cond (gEq r2 0) (
    some (M1, some (.inl ((-2))))) (
    gCi ((gEv N d) 91 [.inl a2, .inl 0, .inl 10] M1) (fun M3 r4 =>
    cond (gEq r4 0) (
      some (M3, some (.inl ((-3))))) (
      gCi ((gEv N d) 91 [.inl a3, .inl 0, .inl 1] M3) (fun M5 r6 =>
      cond (gEq r6 0) (
        some (M5, some (.inl ((-3))))) (
        gCi ((gEv N d) 27 [.inr (.inr (7)), .inl a0, .inl 0] M5) (fun M7 r8 =>
        gCi ((gEv N d) 95 [.inl r8] M7) (fun M9 r10 =>
        gCi ((gEv N d) 27 [.inr (.inr (7)), .inl a1, .inl 0] M9) (fun M11 r12 =>
        gCi ((gEv N d) 95 [.inl r12] M11) (fun M13 r14 =>
        gCi ((gEv N d) 96 [.inl (r10 - r14), .inl a2] M13) (fun M15 r16 =>
        gCi ((gEv N d) 98 [.inl 400, .inl r16] M15) (fun M17 r18 =>
        cond (gEq a3 0) (
          cond (gEq r18 0) none (
          some (M17, some (.inl (gDiv r16 r18))))) (
          cond (gEq r18 0) none (
          some (M17, some (.inl (gDiv 400 r18))))))))))))))))) := rfl
set_option maxRecDepth 20000 in
set_option maxHeartbeats 4000000 in
theorem q_X9_seen (N d : Nat) (a0 : Int) (a1 : Int) (a2 : Int) (M : gM) : gEv N (d + 1) 77 [.inr (.inr (1)), .inl a0, .inl a1, .inl a2] M =
  gCi ((gEv N d) 24 [.inr (.inr (7)), .inl a0] M) (fun M1 r2 =>
  cond (gEq r2 0) (
    some (M1, some (.inl ((-2))))) (
    gCi ((gEv N d) 91 [.inl a1, .inl 0, .inl 12] M1) (fun M3 r4 =>
    cond (gEq r4 0) (
      some (M3, some (.inl ((-3))))) (
      gCi ((gEv N d) 91 [.inl a2, .inl 0, .inl 9] M3) (fun M5 r6 =>
      cond (gEq r6 0) (
        some (M5, some (.inl ((-3))))) (
        cond (gLt (M5 54 0) 6) (
          gCv ((gEv N d) 33 [.inr (.inr (55)), .inl a0, .inl a1, .inl a2] M5) (fun M7 =>
          some (M7, some (.inl (M7 54 0))))) (
          some (M5, some (.inl ((-5))))))))))) := rfl
set_option maxRecDepth 20000 in
set_option maxHeartbeats 4000000 in
theorem q_X9_forget (N d : Nat)  (M : gM) : gEv N (d + 1) 78 [.inr (.inr (1))] M =
  some (gU M 54 0 0, some (.inl (M 54 0))) := rfl
set_option maxRecDepth 20000 in
set_option maxHeartbeats 4000000 in
theorem q_X9_kinds (N d : Nat) (a0 : Int) (a1 : Int) (M : gM) : gEv N (d + 1) 79 [.inr (.inr (1)), .inl a0, .inl a1] M =
  gCi ((gEv N d) 24 [.inr (.inr (7)), .inl a0] M) (fun M1 r2 =>
  cond (gEq r2 0) (
    some (M1, some (.inl ((-2))))) (
    gCi ((gEv N d) 91 [.inl a1, .inl 0, .inl 1] M1) (fun M3 r4 =>
    cond (gEq r4 0) (
      some (M3, some (.inl ((-3))))) (
      cond (gEq a1 0) (
        gCi ((gEv N d) 34 [.inr (.inr (55)), .inl a0, .inr (.inr (9))] M3) (fun M7 r8 =>
        some (M7, some (.inl r8)))) (
        gCi ((gEv N d) 35 [.inr (.inr (55)), .inl a0, .inr (.inr (9))] M3) (fun M5 r6 =>
        some (M5, some (.inl r6)))))))) := rfl
set_option maxRecDepth 20000 in
set_option maxHeartbeats 4000000 in
theorem q_X9_drawer (N d : Nat) (a0 : Int) (a1 : Int) (M : gM) : gEv N (d + 1) 80 [.inr (.inr (1)), .inl a0, .inl a1] M =
  gCi ((gEv N d) 92 [.inl a0] M) (fun M1 r2 =>
  cond (gEq r2 0) (
    some (M1, some (.inl ((-2))))) (
    cond (gLt 10 a1) (
      some (M1, some (.inl ((-3))))) (
      cond (gLt a1 0) (
        some (M1, some (.inl ((-15))))) (
        gIf (gInb a0 4) (
        cond (gEq a0 ((3 : Nat) : Int)) (
          gCv ((gEv N d) 0 [.inr (.inr (79)), .inl a1] M1) (fun M3 =>
          some (M3, some (.inl a1)))) (
        cond (gEq a0 ((2 : Nat) : Int)) (
          gCv ((gEv N d) 0 [.inr (.inr (76)), .inl a1] M1) (fun M4 =>
          some (M4, some (.inl a1)))) (
        cond (gEq a0 ((1 : Nat) : Int)) (
          gCv ((gEv N d) 0 [.inr (.inr (73)), .inl a1] M1) (fun M5 =>
          some (M5, some (.inl a1)))) (
        cond (gEq a0 ((0 : Nat) : Int)) (
          gCv ((gEv N d) 0 [.inr (.inr (70)), .inl a1] M1) (fun M6 =>
          some (M6, some (.inl a1)))) (
        none))))))))) := rfl
noncomputable def L_X9_put_27 (C : gCl) (n : Nat) (x1 : Int) (x2 : Int) (x3 : Int) (x4 : Int) (M : gM) : Option gR := gRun gLay C (fun M v => some (M, v)) gC_X9_put gH_X9_put n 27 [some (.inr (.inr (1))), some (.inl x1), some (.inl x2), some (.inl x3), some (.inl x4), none] [] M
set_option maxRecDepth 20000 in
set_option maxHeartbeats 4000000 in
theorem q_X9_put_27 (C : gCl) (n : Nat) (x1 : Int) (x2 : Int) (x3 : Int) (x4 : Int) (M : gM) : L_X9_put_27 C (n + 1) x1 x2 x3 x4 M =
  gCi (C 93 [.inl x3, .inl x4] M) (fun M1 r2 =>
  cond (gEq r2 0) (
    some (M1, some (.inl ((-3))))) (
    gIf (gInb x1 4) (
    cond (gEq x1 ((3 : Nat) : Int)) (
      cond (gEq (M1 78 0) 0) (
        some (M1, some (.inl ((-11))))) (
        gCi (C 1 [.inr (.inr (79)), .inl x2] M1) (fun M3 r4 =>
        cond (gEq r4 0) (
          some (M3, some (.inl ((-12))))) (
          gIf (gInb x2 10) (
          gIf (gInb x2 10) (
          some (gU (gU M3 79 (gIx x2) x3) 80 (gIx x2) x4, some (.inl 1)))))))) (
    cond (gEq x1 ((2 : Nat) : Int)) (
      cond (gEq (M1 75 0) 0) (
        some (M1, some (.inl ((-11))))) (
        gCi (C 1 [.inr (.inr (76)), .inl x2] M1) (fun M5 r6 =>
        cond (gEq r6 0) (
          some (M5, some (.inl ((-12))))) (
          gIf (gInb x2 10) (
          gIf (gInb x2 10) (
          some (gU (gU M5 76 (gIx x2) x3) 77 (gIx x2) x4, some (.inl 1)))))))) (
    cond (gEq x1 ((1 : Nat) : Int)) (
      cond (gEq (M1 72 0) 0) (
        some (M1, some (.inl ((-11))))) (
        gCi (C 1 [.inr (.inr (73)), .inl x2] M1) (fun M7 r8 =>
        cond (gEq r8 0) (
          some (M7, some (.inl ((-12))))) (
          gIf (gInb x2 10) (
          gIf (gInb x2 10) (
          some (gU (gU M7 73 (gIx x2) x3) 74 (gIx x2) x4, some (.inl 1)))))))) (
    cond (gEq x1 ((0 : Nat) : Int)) (
      cond (gEq (M1 69 0) 0) (
        some (M1, some (.inl ((-11))))) (
        gCi (C 1 [.inr (.inr (70)), .inl x2] M1) (fun M9 r10 =>
        cond (gEq r10 0) (
          some (M9, some (.inl ((-12))))) (
          gIf (gInb x2 10) (
          gIf (gInb x2 10) (
          some (gU (gU M9 70 (gIx x2) x3) 71 (gIx x2) x4, some (.inl 1)))))))) (
    none))))))) := rfl
set_option maxRecDepth 20000 in
set_option maxHeartbeats 4000000 in
theorem q_X9_put (N d : Nat) (a0 : Int) (a1 : Int) (a2 : Int) (a3 : Int) (M : gM) : gEv N (d + 1) 81 [.inr (.inr (1)), .inl a0, .inl a1, .inl a2, .inl a3] M =
  gCi ((gEv N d) 92 [.inl a0] M) (fun M1 r2 =>
  cond (gEq r2 0) (
    some (M1, some (.inl ((-2))))) (
    cond (gEq a2 2) (
      gCi ((gEv N d) 24 [.inr (.inr (7)), .inl a3] M1) (fun M3 r4 =>
      cond (gEq r4 0) (
        some (M3, some (.inl ((-2))))) (
        L_X9_put_27 (gEv N d) N a0 a1 a2 a3 M3))) (
      L_X9_put_27 (gEv N d) N a0 a1 a2 a3 M1))) := rfl
set_option maxRecDepth 20000 in
set_option maxHeartbeats 4000000 in
theorem q_X9_take (N d : Nat) (a0 : Int) (a1 : Int) (a2 : Int) (M : gM) : gEv N (d + 1) 82 [.inr (.inr (1)), .inl a0, .inl a1, .inl a2] M =
  gCi ((gEv N d) 92 [.inl a0] M) (fun M1 r2 =>
  cond (gEq r2 0) (
    some (M1, some (.inl ((-2))))) (
    gCi ((gEv N d) 91 [.inl a2, .inl 0, .inl 2] M1) (fun M3 r4 =>
    cond (gEq r4 0) (
      some (M3, some (.inl ((-3))))) (
      gIf (gInb a0 4) (
      cond (gEq a0 ((3 : Nat) : Int)) (
        cond (gEq (M3 78 0) 0) (
          some (M3, some (.inl ((-11))))) (
          gCi ((gEv N d) 1 [.inr (.inr (79)), .inl a1] M3) (fun M5 r6 =>
          cond (gEq r6 0) (
            some (M5, some (.inl ((-12))))) (
            gIf (gInb a1 10) (
            cond (gEq (M5 79 (gIx a1)) 3) (
              some (M5, some (.inl ((-13))))) (
              gIf (gInb a1 10) (
              cond (gEq (M5 79 (gIx a1)) a2) (
                cond (gEq a2 0) (
                  gIf (gInb a1 10) (
                  some (M5, some (.inl ((M5 80 (gIx a1)) + (((50000 : Nat) : Int))))))) (
                  gIf (gInb a1 10) (
                  some (M5, some (.inl (M5 80 (gIx a1))))))) (
                some (M5, some (.inl ((-14)))))))))))) (
      cond (gEq a0 ((2 : Nat) : Int)) (
        cond (gEq (M3 75 0) 0) (
          some (M3, some (.inl ((-11))))) (
          gCi ((gEv N d) 1 [.inr (.inr (76)), .inl a1] M3) (fun M7 r8 =>
          cond (gEq r8 0) (
            some (M7, some (.inl ((-12))))) (
            gIf (gInb a1 10) (
            cond (gEq (M7 76 (gIx a1)) 3) (
              some (M7, some (.inl ((-13))))) (
              gIf (gInb a1 10) (
              cond (gEq (M7 76 (gIx a1)) a2) (
                cond (gEq a2 0) (
                  gIf (gInb a1 10) (
                  some (M7, some (.inl ((M7 77 (gIx a1)) + (((50000 : Nat) : Int))))))) (
                  gIf (gInb a1 10) (
                  some (M7, some (.inl (M7 77 (gIx a1))))))) (
                some (M7, some (.inl ((-14)))))))))))) (
      cond (gEq a0 ((1 : Nat) : Int)) (
        cond (gEq (M3 72 0) 0) (
          some (M3, some (.inl ((-11))))) (
          gCi ((gEv N d) 1 [.inr (.inr (73)), .inl a1] M3) (fun M9 r10 =>
          cond (gEq r10 0) (
            some (M9, some (.inl ((-12))))) (
            gIf (gInb a1 10) (
            cond (gEq (M9 73 (gIx a1)) 3) (
              some (M9, some (.inl ((-13))))) (
              gIf (gInb a1 10) (
              cond (gEq (M9 73 (gIx a1)) a2) (
                cond (gEq a2 0) (
                  gIf (gInb a1 10) (
                  some (M9, some (.inl ((M9 74 (gIx a1)) + (((50000 : Nat) : Int))))))) (
                  gIf (gInb a1 10) (
                  some (M9, some (.inl (M9 74 (gIx a1))))))) (
                some (M9, some (.inl ((-14)))))))))))) (
      cond (gEq a0 ((0 : Nat) : Int)) (
        cond (gEq (M3 69 0) 0) (
          some (M3, some (.inl ((-11))))) (
          gCi ((gEv N d) 1 [.inr (.inr (70)), .inl a1] M3) (fun M11 r12 =>
          cond (gEq r12 0) (
            some (M11, some (.inl ((-12))))) (
            gIf (gInb a1 10) (
            cond (gEq (M11 70 (gIx a1)) 3) (
              some (M11, some (.inl ((-13))))) (
              gIf (gInb a1 10) (
              cond (gEq (M11 70 (gIx a1)) a2) (
                cond (gEq a2 0) (
                  gIf (gInb a1 10) (
                  some (M11, some (.inl ((M11 71 (gIx a1)) + (((50000 : Nat) : Int))))))) (
                  gIf (gInb a1 10) (
                  some (M11, some (.inl (M11 71 (gIx a1))))))) (
                some (M11, some (.inl ((-14)))))))))))) (
      none))))))))) := rfl
set_option maxRecDepth 20000 in
set_option maxHeartbeats 4000000 in
theorem q_X9_tidy (N d : Nat) (a0 : Int) (M : gM) : gEv N (d + 1) 83 [.inr (.inr (1)), .inl a0] M =
  gCi ((gEv N d) 92 [.inl a0] M) (fun M1 r2 =>
  cond (gEq r2 0) (
    some (M1, some (.inl ((-2))))) (
    gIf (gInb a0 4) (
    cond (gEq a0 ((3 : Nat) : Int)) (
      cond (gEq (M1 78 0) 0) (
        some (M1, some (.inl ((-11))))) (
        gCi ((gEv N d) 3 [.inr (.inr (79))] M1) (fun M3 r4 =>
        cond (gLt r4 (M3 78 1)) (
          some (M3, some (.inl ((-13))))) (
          gCi ((gEv N d) 4 [.inr (.inr (79))] M3) (fun M5 r6 =>
          cond (gEq r6 0) (
            some (M5, some (.inl ((-14))))) (
            gCv ((gEv N d) 5 [.inr (.inr (79)), .inr (.inr (7))] M5) (fun M7 =>
            some (M7, some (.inl (M7 78 1)))))))))) (
    cond (gEq a0 ((2 : Nat) : Int)) (
      cond (gEq (M1 75 0) 0) (
        some (M1, some (.inl ((-11))))) (
        gCi ((gEv N d) 3 [.inr (.inr (76))] M1) (fun M8 r9 =>
        cond (gLt r9 (M8 75 1)) (
          some (M8, some (.inl ((-13))))) (
          gCi ((gEv N d) 4 [.inr (.inr (76))] M8) (fun M10 r11 =>
          cond (gEq r11 0) (
            some (M10, some (.inl ((-14))))) (
            gCv ((gEv N d) 5 [.inr (.inr (76)), .inr (.inr (7))] M10) (fun M12 =>
            some (M12, some (.inl (M12 75 1)))))))))) (
    cond (gEq a0 ((1 : Nat) : Int)) (
      cond (gEq (M1 72 0) 0) (
        some (M1, some (.inl ((-11))))) (
        gCi ((gEv N d) 3 [.inr (.inr (73))] M1) (fun M13 r14 =>
        cond (gLt r14 (M13 72 1)) (
          some (M13, some (.inl ((-13))))) (
          gCi ((gEv N d) 4 [.inr (.inr (73))] M13) (fun M15 r16 =>
          cond (gEq r16 0) (
            some (M15, some (.inl ((-14))))) (
            gCv ((gEv N d) 5 [.inr (.inr (73)), .inr (.inr (7))] M15) (fun M17 =>
            some (M17, some (.inl (M17 72 1)))))))))) (
    cond (gEq a0 ((0 : Nat) : Int)) (
      cond (gEq (M1 69 0) 0) (
        some (M1, some (.inl ((-11))))) (
        gCi ((gEv N d) 3 [.inr (.inr (70))] M1) (fun M18 r19 =>
        cond (gLt r19 (M18 69 1)) (
          some (M18, some (.inl ((-13))))) (
          gCi ((gEv N d) 4 [.inr (.inr (70))] M18) (fun M20 r21 =>
          cond (gEq r21 0) (
            some (M20, some (.inl ((-14))))) (
            gCv ((gEv N d) 5 [.inr (.inr (70)), .inr (.inr (7))] M20) (fun M22 =>
            some (M22, some (.inl (M22 69 1)))))))))) (
    none))))))) := rfl
set_option maxRecDepth 20000 in
set_option maxHeartbeats 4000000 in
theorem q_X9_copy (N d : Nat) (a0 : Int) (a1 : Int) (a2 : Int) (a3 : Int) (a4 : Int) (M : gM) : gEv N (d + 1) 84 [.inr (.inr (1)), .inl a0, .inl a1, .inl a2, .inl a3, .inl a4] M =
  gCi ((gEv N d) 92 [.inl a0] M) (fun M1 r2 =>
  cond (gEq r2 0) (
    some (M1, some (.inl ((-2))))) (
    gCi ((gEv N d) 92 [.inl a2] M1) (fun M3 r4 =>
    cond (gEq r4 0) (
      some (M3, some (.inl ((-2))))) (
      gIf (gInb a0 4) (
      cond (gEq a0 ((3 : Nat) : Int)) (
        gIf (gInb a2 4) (
        cond (gEq a2 ((3 : Nat) : Int)) (
          cond (gEq (M3 78 0) 0) (
            some (M3, some (.inl ((-11))))) (
            cond (gEq (M3 78 0) 0) (
              some (M3, some (.inl ((-11))))) (
              gCi ((gEv N d) 2 [.inr (.inr (79)), .inl a1, .inl a4] M3) (fun M5 r6 =>
              cond (gEq r6 0) (
                some (M5, some (.inl ((-12))))) (
                gCi ((gEv N d) 2 [.inr (.inr (79)), .inl a3, .inl a4] M5) (fun M7 r8 =>
                cond (gEq r8 0) (
                  some (M7, some (.inl ((-12))))) (
                  gIf (decide (0 ≤ gW a1 ∧ 0 ≤ gW a3 ∧ 0 ≤ gW a4 ∧ gW a1 + gW a4 ≤ ((10 : Nat) : Int) ∧ gW a3 + gW a4 ≤ ((10 : Nat) : Int))) (
                  gIf (decide (0 ≤ gW a1 ∧ 0 ≤ gW a3 ∧ 0 ≤ gW a4 ∧ gW a1 + gW a4 ≤ ((10 : Nat) : Int) ∧ gW a3 + gW a4 ≤ ((10 : Nat) : Int))) (
                  some (gCp (gCp M7 79 (gIx a1) 79 (gIx a3) (gIx a4)) 80 (gIx a1) 80 (gIx a3) (gIx a4), some (.inl a4))))))))))) (
        cond (gEq a2 ((2 : Nat) : Int)) (
          cond (gEq (M3 78 0) 0) (
            some (M3, some (.inl ((-11))))) (
            cond (gEq (M3 75 0) 0) (
              some (M3, some (.inl ((-11))))) (
              gCi ((gEv N d) 2 [.inr (.inr (79)), .inl a1, .inl a4] M3) (fun M9 r10 =>
              cond (gEq r10 0) (
                some (M9, some (.inl ((-12))))) (
                gCi ((gEv N d) 2 [.inr (.inr (76)), .inl a3, .inl a4] M9) (fun M11 r12 =>
                cond (gEq r12 0) (
                  some (M11, some (.inl ((-12))))) (
                  gIf (decide (0 ≤ gW a1 ∧ 0 ≤ gW a3 ∧ 0 ≤ gW a4 ∧ gW a1 + gW a4 ≤ ((10 : Nat) : Int) ∧ gW a3 + gW a4 ≤ ((10 : Nat) : Int))) (
                  gIf (decide (0 ≤ gW a1 ∧ 0 ≤ gW a3 ∧ 0 ≤ gW a4 ∧ gW a1 + gW a4 ≤ ((10 : Nat) : Int) ∧ gW a3 + gW a4 ≤ ((10 : Nat) : Int))) (
                  some (gCp (gCp M11 79 (gIx a1) 76 (gIx a3) (gIx a4)) 80 (gIx a1) 77 (gIx a3) (gIx a4), some (.inl a4))))))))))) (
        cond (gEq a2 ((1 : Nat) : Int)) (
          cond (gEq (M3 78 0) 0) (
            some (M3, some (.inl ((-11))))) (
            cond (gEq (M3 72 0) 0) (
              some (M3, some (.inl ((-11))))) (
              gCi ((gEv N d) 2 [.inr (.inr (79)), .inl a1, .inl a4] M3) (fun M13 r14 =>
              cond (gEq r14 0) (
                some (M13, some (.inl ((-12))))) (
                gCi ((gEv N d) 2 [.inr (.inr (73)), .inl a3, .inl a4] M13) (fun M15 r16 =>
                cond (gEq r16 0) (
                  some (M15, some (.inl ((-12))))) (
                  gIf (decide (0 ≤ gW a1 ∧ 0 ≤ gW a3 ∧ 0 ≤ gW a4 ∧ gW a1 + gW a4 ≤ ((10 : Nat) : Int) ∧ gW a3 + gW a4 ≤ ((10 : Nat) : Int))) (
                  gIf (decide (0 ≤ gW a1 ∧ 0 ≤ gW a3 ∧ 0 ≤ gW a4 ∧ gW a1 + gW a4 ≤ ((10 : Nat) : Int) ∧ gW a3 + gW a4 ≤ ((10 : Nat) : Int))) (
                  some (gCp (gCp M15 79 (gIx a1) 73 (gIx a3) (gIx a4)) 80 (gIx a1) 74 (gIx a3) (gIx a4), some (.inl a4))))))))))) (
        cond (gEq a2 ((0 : Nat) : Int)) (
          cond (gEq (M3 78 0) 0) (
            some (M3, some (.inl ((-11))))) (
            cond (gEq (M3 69 0) 0) (
              some (M3, some (.inl ((-11))))) (
              gCi ((gEv N d) 2 [.inr (.inr (79)), .inl a1, .inl a4] M3) (fun M17 r18 =>
              cond (gEq r18 0) (
                some (M17, some (.inl ((-12))))) (
                gCi ((gEv N d) 2 [.inr (.inr (70)), .inl a3, .inl a4] M17) (fun M19 r20 =>
                cond (gEq r20 0) (
                  some (M19, some (.inl ((-12))))) (
                  gIf (decide (0 ≤ gW a1 ∧ 0 ≤ gW a3 ∧ 0 ≤ gW a4 ∧ gW a1 + gW a4 ≤ ((10 : Nat) : Int) ∧ gW a3 + gW a4 ≤ ((10 : Nat) : Int))) (
                  gIf (decide (0 ≤ gW a1 ∧ 0 ≤ gW a3 ∧ 0 ≤ gW a4 ∧ gW a1 + gW a4 ≤ ((10 : Nat) : Int) ∧ gW a3 + gW a4 ≤ ((10 : Nat) : Int))) (
                  some (gCp (gCp M19 79 (gIx a1) 70 (gIx a3) (gIx a4)) 80 (gIx a1) 71 (gIx a3) (gIx a4), some (.inl a4))))))))))) (
        none)))))) (
      cond (gEq a0 ((2 : Nat) : Int)) (
        gIf (gInb a2 4) (
        cond (gEq a2 ((3 : Nat) : Int)) (
          cond (gEq (M3 75 0) 0) (
            some (M3, some (.inl ((-11))))) (
            cond (gEq (M3 78 0) 0) (
              some (M3, some (.inl ((-11))))) (
              gCi ((gEv N d) 2 [.inr (.inr (76)), .inl a1, .inl a4] M3) (fun M21 r22 =>
              cond (gEq r22 0) (
                some (M21, some (.inl ((-12))))) (
                gCi ((gEv N d) 2 [.inr (.inr (79)), .inl a3, .inl a4] M21) (fun M23 r24 =>
                cond (gEq r24 0) (
                  some (M23, some (.inl ((-12))))) (
                  gIf (decide (0 ≤ gW a1 ∧ 0 ≤ gW a3 ∧ 0 ≤ gW a4 ∧ gW a1 + gW a4 ≤ ((10 : Nat) : Int) ∧ gW a3 + gW a4 ≤ ((10 : Nat) : Int))) (
                  gIf (decide (0 ≤ gW a1 ∧ 0 ≤ gW a3 ∧ 0 ≤ gW a4 ∧ gW a1 + gW a4 ≤ ((10 : Nat) : Int) ∧ gW a3 + gW a4 ≤ ((10 : Nat) : Int))) (
                  some (gCp (gCp M23 76 (gIx a1) 79 (gIx a3) (gIx a4)) 77 (gIx a1) 80 (gIx a3) (gIx a4), some (.inl a4))))))))))) (
        cond (gEq a2 ((2 : Nat) : Int)) (
          cond (gEq (M3 75 0) 0) (
            some (M3, some (.inl ((-11))))) (
            cond (gEq (M3 75 0) 0) (
              some (M3, some (.inl ((-11))))) (
              gCi ((gEv N d) 2 [.inr (.inr (76)), .inl a1, .inl a4] M3) (fun M25 r26 =>
              cond (gEq r26 0) (
                some (M25, some (.inl ((-12))))) (
                gCi ((gEv N d) 2 [.inr (.inr (76)), .inl a3, .inl a4] M25) (fun M27 r28 =>
                cond (gEq r28 0) (
                  some (M27, some (.inl ((-12))))) (
                  gIf (decide (0 ≤ gW a1 ∧ 0 ≤ gW a3 ∧ 0 ≤ gW a4 ∧ gW a1 + gW a4 ≤ ((10 : Nat) : Int) ∧ gW a3 + gW a4 ≤ ((10 : Nat) : Int))) (
                  gIf (decide (0 ≤ gW a1 ∧ 0 ≤ gW a3 ∧ 0 ≤ gW a4 ∧ gW a1 + gW a4 ≤ ((10 : Nat) : Int) ∧ gW a3 + gW a4 ≤ ((10 : Nat) : Int))) (
                  some (gCp (gCp M27 76 (gIx a1) 76 (gIx a3) (gIx a4)) 77 (gIx a1) 77 (gIx a3) (gIx a4), some (.inl a4))))))))))) (
        cond (gEq a2 ((1 : Nat) : Int)) (
          cond (gEq (M3 75 0) 0) (
            some (M3, some (.inl ((-11))))) (
            cond (gEq (M3 72 0) 0) (
              some (M3, some (.inl ((-11))))) (
              gCi ((gEv N d) 2 [.inr (.inr (76)), .inl a1, .inl a4] M3) (fun M29 r30 =>
              cond (gEq r30 0) (
                some (M29, some (.inl ((-12))))) (
                gCi ((gEv N d) 2 [.inr (.inr (73)), .inl a3, .inl a4] M29) (fun M31 r32 =>
                cond (gEq r32 0) (
                  some (M31, some (.inl ((-12))))) (
                  gIf (decide (0 ≤ gW a1 ∧ 0 ≤ gW a3 ∧ 0 ≤ gW a4 ∧ gW a1 + gW a4 ≤ ((10 : Nat) : Int) ∧ gW a3 + gW a4 ≤ ((10 : Nat) : Int))) (
                  gIf (decide (0 ≤ gW a1 ∧ 0 ≤ gW a3 ∧ 0 ≤ gW a4 ∧ gW a1 + gW a4 ≤ ((10 : Nat) : Int) ∧ gW a3 + gW a4 ≤ ((10 : Nat) : Int))) (
                  some (gCp (gCp M31 76 (gIx a1) 73 (gIx a3) (gIx a4)) 77 (gIx a1) 74 (gIx a3) (gIx a4), some (.inl a4))))))))))) (
        cond (gEq a2 ((0 : Nat) : Int)) (
          cond (gEq (M3 75 0) 0) (
            some (M3, some (.inl ((-11))))) (
            cond (gEq (M3 69 0) 0) (
              some (M3, some (.inl ((-11))))) (
              gCi ((gEv N d) 2 [.inr (.inr (76)), .inl a1, .inl a4] M3) (fun M33 r34 =>
              cond (gEq r34 0) (
                some (M33, some (.inl ((-12))))) (
                gCi ((gEv N d) 2 [.inr (.inr (70)), .inl a3, .inl a4] M33) (fun M35 r36 =>
                cond (gEq r36 0) (
                  some (M35, some (.inl ((-12))))) (
                  gIf (decide (0 ≤ gW a1 ∧ 0 ≤ gW a3 ∧ 0 ≤ gW a4 ∧ gW a1 + gW a4 ≤ ((10 : Nat) : Int) ∧ gW a3 + gW a4 ≤ ((10 : Nat) : Int))) (
                  gIf (decide (0 ≤ gW a1 ∧ 0 ≤ gW a3 ∧ 0 ≤ gW a4 ∧ gW a1 + gW a4 ≤ ((10 : Nat) : Int) ∧ gW a3 + gW a4 ≤ ((10 : Nat) : Int))) (
                  some (gCp (gCp M35 76 (gIx a1) 70 (gIx a3) (gIx a4)) 77 (gIx a1) 71 (gIx a3) (gIx a4), some (.inl a4))))))))))) (
        none)))))) (
      cond (gEq a0 ((1 : Nat) : Int)) (
        gIf (gInb a2 4) (
        cond (gEq a2 ((3 : Nat) : Int)) (
          cond (gEq (M3 72 0) 0) (
            some (M3, some (.inl ((-11))))) (
            cond (gEq (M3 78 0) 0) (
              some (M3, some (.inl ((-11))))) (
              gCi ((gEv N d) 2 [.inr (.inr (73)), .inl a1, .inl a4] M3) (fun M37 r38 =>
              cond (gEq r38 0) (
                some (M37, some (.inl ((-12))))) (
                gCi ((gEv N d) 2 [.inr (.inr (79)), .inl a3, .inl a4] M37) (fun M39 r40 =>
                cond (gEq r40 0) (
                  some (M39, some (.inl ((-12))))) (
                  gIf (decide (0 ≤ gW a1 ∧ 0 ≤ gW a3 ∧ 0 ≤ gW a4 ∧ gW a1 + gW a4 ≤ ((10 : Nat) : Int) ∧ gW a3 + gW a4 ≤ ((10 : Nat) : Int))) (
                  gIf (decide (0 ≤ gW a1 ∧ 0 ≤ gW a3 ∧ 0 ≤ gW a4 ∧ gW a1 + gW a4 ≤ ((10 : Nat) : Int) ∧ gW a3 + gW a4 ≤ ((10 : Nat) : Int))) (
                  some (gCp (gCp M39 73 (gIx a1) 79 (gIx a3) (gIx a4)) 74 (gIx a1) 80 (gIx a3) (gIx a4), some (.inl a4))))))))))) (
        cond (gEq a2 ((2 : Nat) : Int)) (
          cond (gEq (M3 72 0) 0) (
            some (M3, some (.inl ((-11))))) (
            cond (gEq (M3 75 0) 0) (
              some (M3, some (.inl ((-11))))) (
              gCi ((gEv N d) 2 [.inr (.inr (73)), .inl a1, .inl a4] M3) (fun M41 r42 =>
              cond (gEq r42 0) (
                some (M41, some (.inl ((-12))))) (
                gCi ((gEv N d) 2 [.inr (.inr (76)), .inl a3, .inl a4] M41) (fun M43 r44 =>
                cond (gEq r44 0) (
                  some (M43, some (.inl ((-12))))) (
                  gIf (decide (0 ≤ gW a1 ∧ 0 ≤ gW a3 ∧ 0 ≤ gW a4 ∧ gW a1 + gW a4 ≤ ((10 : Nat) : Int) ∧ gW a3 + gW a4 ≤ ((10 : Nat) : Int))) (
                  gIf (decide (0 ≤ gW a1 ∧ 0 ≤ gW a3 ∧ 0 ≤ gW a4 ∧ gW a1 + gW a4 ≤ ((10 : Nat) : Int) ∧ gW a3 + gW a4 ≤ ((10 : Nat) : Int))) (
                  some (gCp (gCp M43 73 (gIx a1) 76 (gIx a3) (gIx a4)) 74 (gIx a1) 77 (gIx a3) (gIx a4), some (.inl a4))))))))))) (
        cond (gEq a2 ((1 : Nat) : Int)) (
          cond (gEq (M3 72 0) 0) (
            some (M3, some (.inl ((-11))))) (
            cond (gEq (M3 72 0) 0) (
              some (M3, some (.inl ((-11))))) (
              gCi ((gEv N d) 2 [.inr (.inr (73)), .inl a1, .inl a4] M3) (fun M45 r46 =>
              cond (gEq r46 0) (
                some (M45, some (.inl ((-12))))) (
                gCi ((gEv N d) 2 [.inr (.inr (73)), .inl a3, .inl a4] M45) (fun M47 r48 =>
                cond (gEq r48 0) (
                  some (M47, some (.inl ((-12))))) (
                  gIf (decide (0 ≤ gW a1 ∧ 0 ≤ gW a3 ∧ 0 ≤ gW a4 ∧ gW a1 + gW a4 ≤ ((10 : Nat) : Int) ∧ gW a3 + gW a4 ≤ ((10 : Nat) : Int))) (
                  gIf (decide (0 ≤ gW a1 ∧ 0 ≤ gW a3 ∧ 0 ≤ gW a4 ∧ gW a1 + gW a4 ≤ ((10 : Nat) : Int) ∧ gW a3 + gW a4 ≤ ((10 : Nat) : Int))) (
                  some (gCp (gCp M47 73 (gIx a1) 73 (gIx a3) (gIx a4)) 74 (gIx a1) 74 (gIx a3) (gIx a4), some (.inl a4))))))))))) (
        cond (gEq a2 ((0 : Nat) : Int)) (
          cond (gEq (M3 72 0) 0) (
            some (M3, some (.inl ((-11))))) (
            cond (gEq (M3 69 0) 0) (
              some (M3, some (.inl ((-11))))) (
              gCi ((gEv N d) 2 [.inr (.inr (73)), .inl a1, .inl a4] M3) (fun M49 r50 =>
              cond (gEq r50 0) (
                some (M49, some (.inl ((-12))))) (
                gCi ((gEv N d) 2 [.inr (.inr (70)), .inl a3, .inl a4] M49) (fun M51 r52 =>
                cond (gEq r52 0) (
                  some (M51, some (.inl ((-12))))) (
                  gIf (decide (0 ≤ gW a1 ∧ 0 ≤ gW a3 ∧ 0 ≤ gW a4 ∧ gW a1 + gW a4 ≤ ((10 : Nat) : Int) ∧ gW a3 + gW a4 ≤ ((10 : Nat) : Int))) (
                  gIf (decide (0 ≤ gW a1 ∧ 0 ≤ gW a3 ∧ 0 ≤ gW a4 ∧ gW a1 + gW a4 ≤ ((10 : Nat) : Int) ∧ gW a3 + gW a4 ≤ ((10 : Nat) : Int))) (
                  some (gCp (gCp M51 73 (gIx a1) 70 (gIx a3) (gIx a4)) 74 (gIx a1) 71 (gIx a3) (gIx a4), some (.inl a4))))))))))) (
        none)))))) (
      cond (gEq a0 ((0 : Nat) : Int)) (
        gIf (gInb a2 4) (
        cond (gEq a2 ((3 : Nat) : Int)) (
          cond (gEq (M3 69 0) 0) (
            some (M3, some (.inl ((-11))))) (
            cond (gEq (M3 78 0) 0) (
              some (M3, some (.inl ((-11))))) (
              gCi ((gEv N d) 2 [.inr (.inr (70)), .inl a1, .inl a4] M3) (fun M53 r54 =>
              cond (gEq r54 0) (
                some (M53, some (.inl ((-12))))) (
                gCi ((gEv N d) 2 [.inr (.inr (79)), .inl a3, .inl a4] M53) (fun M55 r56 =>
                cond (gEq r56 0) (
                  some (M55, some (.inl ((-12))))) (
                  gIf (decide (0 ≤ gW a1 ∧ 0 ≤ gW a3 ∧ 0 ≤ gW a4 ∧ gW a1 + gW a4 ≤ ((10 : Nat) : Int) ∧ gW a3 + gW a4 ≤ ((10 : Nat) : Int))) (
                  gIf (decide (0 ≤ gW a1 ∧ 0 ≤ gW a3 ∧ 0 ≤ gW a4 ∧ gW a1 + gW a4 ≤ ((10 : Nat) : Int) ∧ gW a3 + gW a4 ≤ ((10 : Nat) : Int))) (
                  some (gCp (gCp M55 70 (gIx a1) 79 (gIx a3) (gIx a4)) 71 (gIx a1) 80 (gIx a3) (gIx a4), some (.inl a4))))))))))) (
        cond (gEq a2 ((2 : Nat) : Int)) (
          cond (gEq (M3 69 0) 0) (
            some (M3, some (.inl ((-11))))) (
            cond (gEq (M3 75 0) 0) (
              some (M3, some (.inl ((-11))))) (
              gCi ((gEv N d) 2 [.inr (.inr (70)), .inl a1, .inl a4] M3) (fun M57 r58 =>
              cond (gEq r58 0) (
                some (M57, some (.inl ((-12))))) (
                gCi ((gEv N d) 2 [.inr (.inr (76)), .inl a3, .inl a4] M57) (fun M59 r60 =>
                cond (gEq r60 0) (
                  some (M59, some (.inl ((-12))))) (
                  gIf (decide (0 ≤ gW a1 ∧ 0 ≤ gW a3 ∧ 0 ≤ gW a4 ∧ gW a1 + gW a4 ≤ ((10 : Nat) : Int) ∧ gW a3 + gW a4 ≤ ((10 : Nat) : Int))) (
                  gIf (decide (0 ≤ gW a1 ∧ 0 ≤ gW a3 ∧ 0 ≤ gW a4 ∧ gW a1 + gW a4 ≤ ((10 : Nat) : Int) ∧ gW a3 + gW a4 ≤ ((10 : Nat) : Int))) (
                  some (gCp (gCp M59 70 (gIx a1) 76 (gIx a3) (gIx a4)) 71 (gIx a1) 77 (gIx a3) (gIx a4), some (.inl a4))))))))))) (
        cond (gEq a2 ((1 : Nat) : Int)) (
          cond (gEq (M3 69 0) 0) (
            some (M3, some (.inl ((-11))))) (
            cond (gEq (M3 72 0) 0) (
              some (M3, some (.inl ((-11))))) (
              gCi ((gEv N d) 2 [.inr (.inr (70)), .inl a1, .inl a4] M3) (fun M61 r62 =>
              cond (gEq r62 0) (
                some (M61, some (.inl ((-12))))) (
                gCi ((gEv N d) 2 [.inr (.inr (73)), .inl a3, .inl a4] M61) (fun M63 r64 =>
                cond (gEq r64 0) (
                  some (M63, some (.inl ((-12))))) (
                  gIf (decide (0 ≤ gW a1 ∧ 0 ≤ gW a3 ∧ 0 ≤ gW a4 ∧ gW a1 + gW a4 ≤ ((10 : Nat) : Int) ∧ gW a3 + gW a4 ≤ ((10 : Nat) : Int))) (
                  gIf (decide (0 ≤ gW a1 ∧ 0 ≤ gW a3 ∧ 0 ≤ gW a4 ∧ gW a1 + gW a4 ≤ ((10 : Nat) : Int) ∧ gW a3 + gW a4 ≤ ((10 : Nat) : Int))) (
                  some (gCp (gCp M63 70 (gIx a1) 73 (gIx a3) (gIx a4)) 71 (gIx a1) 74 (gIx a3) (gIx a4), some (.inl a4))))))))))) (
        cond (gEq a2 ((0 : Nat) : Int)) (
          cond (gEq (M3 69 0) 0) (
            some (M3, some (.inl ((-11))))) (
            cond (gEq (M3 69 0) 0) (
              some (M3, some (.inl ((-11))))) (
              gCi ((gEv N d) 2 [.inr (.inr (70)), .inl a1, .inl a4] M3) (fun M65 r66 =>
              cond (gEq r66 0) (
                some (M65, some (.inl ((-12))))) (
                gCi ((gEv N d) 2 [.inr (.inr (70)), .inl a3, .inl a4] M65) (fun M67 r68 =>
                cond (gEq r68 0) (
                  some (M67, some (.inl ((-12))))) (
                  gIf (decide (0 ≤ gW a1 ∧ 0 ≤ gW a3 ∧ 0 ≤ gW a4 ∧ gW a1 + gW a4 ≤ ((10 : Nat) : Int) ∧ gW a3 + gW a4 ≤ ((10 : Nat) : Int))) (
                  gIf (decide (0 ≤ gW a1 ∧ 0 ≤ gW a3 ∧ 0 ≤ gW a4 ∧ gW a1 + gW a4 ≤ ((10 : Nat) : Int) ∧ gW a3 + gW a4 ≤ ((10 : Nat) : Int))) (
                  some (gCp (gCp M67 70 (gIx a1) 70 (gIx a3) (gIx a4)) 71 (gIx a1) 71 (gIx a3) (gIx a4), some (.inl a4))))))))))) (
        none)))))) (
      none))))))))) := rfl
set_option maxRecDepth 20000 in
set_option maxHeartbeats 4000000 in
theorem q_X9_drop (N d : Nat) (a0 : Int) (M : gM) : gEv N (d + 1) 85 [.inr (.inr (1)), .inl a0] M =
  gCi ((gEv N d) 92 [.inl a0] M) (fun M1 r2 =>
  cond (gEq r2 0) (
    some (M1, some (.inl ((-2))))) (
    gIf (gInb a0 4) (
    cond (gEq a0 ((3 : Nat) : Int)) (
      cond (gEq (M1 78 0) 0) (
        some (M1, some (.inl ((-11))))) (
        gCi ((gEv N d) 3 [.inr (.inr (79))] M1) (fun M3 r4 =>
        gIf (gB01 0) (
        some (gU M3 78 0 0, some (.inl r4)))))) (
    cond (gEq a0 ((2 : Nat) : Int)) (
      cond (gEq (M1 75 0) 0) (
        some (M1, some (.inl ((-11))))) (
        gCi ((gEv N d) 3 [.inr (.inr (76))] M1) (fun M5 r6 =>
        gIf (gB01 0) (
        some (gU M5 75 0 0, some (.inl r6)))))) (
    cond (gEq a0 ((1 : Nat) : Int)) (
      cond (gEq (M1 72 0) 0) (
        some (M1, some (.inl ((-11))))) (
        gCi ((gEv N d) 3 [.inr (.inr (73))] M1) (fun M7 r8 =>
        gIf (gB01 0) (
        some (gU M7 72 0 0, some (.inl r8)))))) (
    cond (gEq a0 ((0 : Nat) : Int)) (
      cond (gEq (M1 69 0) 0) (
        some (M1, some (.inl ((-11))))) (
        gCi ((gEv N d) 3 [.inr (.inr (70))] M1) (fun M9 r10 =>
        gIf (gB01 0) (
        some (gU M9 69 0 0, some (.inl r10)))))) (
    none))))))) := rfl
set_option maxRecDepth 20000 in
set_option maxHeartbeats 4000000 in
theorem q_X9_count (N d : Nat) (a0 : Int) (M : gM) : gEv N (d + 1) 86 [.inr (.inr (1)), .inl a0] M =
  cond (gEq a0 0) (
    some (M, some (.inl (M 6 0)))) (
  cond (gEq a0 1) (
    some (M, some (.inl (M 14 0)))) (
  cond (gEq a0 2) (
    some (M, some (.inl (M 8 0)))) (
  cond (gEq a0 3) (
    gCi ((gEv N d) 30 [.inr (.inr (7))] M) (fun M1 r2 =>
    some (M1, some (.inl r2)))) (
  cond (gEq a0 4) (
    gCi ((gEv N d) 31 [.inr (.inr (7))] M) (fun M3 r4 =>
    some (M3, some (.inl r4)))) (
  cond (gEq a0 5) (
    gCi ((gEv N d) 32 [.inr (.inr (7))] M) (fun M5 r6 =>
    some (M5, some (.inl r6)))) (
  cond (gEq a0 6) (
    some (M, some (.inl (M 54 0)))) (
  cond (gEq a0 7) (
    gCi ((gEv N d) 90 [.inr (.inr (1))] M) (fun M7 r8 =>
    some (M7, some (.inl r8)))) (
  cond (gEq a0 8) (
    some (M, some (.inl (M 20 0)))) (
  cond (gEq a0 9) (
    some (M, some (.inl (M 1 1)))) (
    some (M, some (.inl ((-3)))))))))))))) := rfl
set_option maxRecDepth 20000 in
set_option maxHeartbeats 4000000 in
theorem q_X9_doClause (N d : Nat) (a0 : Int) (M : gM) : gEv N (d + 1) 87 [.inr (.inr (1)), .inl a0] M =
  gIf (gInb a0 20) (
  cond (gEq (M 3 (gIx a0)) 5) (
    some (gU (gU M 6 0 0) 17 0 0, none)) (
    cond (gEq (M 3 (gIx a0)) 6) (
      gIf (gInb (a0 * 3) 60) (
      gIf (gInb ((a0 * 3) + 1) 60) (
      gCv ((gEv N d) 23 [.inr (.inr (18)), .inl (M 5 (gIx (a0 * 3))), .inl (M 5 (gIx ((a0 * 3) + 1)))] M) (fun M2 =>
      some (M2, none))))) (
      gIf (gInb a0 20) (
      gCv ((gEv N d) 25 [.inr (.inr (7)), .inl (M 3 (gIx a0)), .inr (.inr (6)), .inl (a0 * 3), .inl (M 4 (gIx a0))] M) (fun M1 =>
      some (M1, none)))))) := rfl
noncomputable def L_X9_beginAsTold_46 (C : gCl) (n : Nat) (x1 : Int) (M : gM) : Option gR := gRun gLay C (fun M v => some (M, v)) gC_X9_beginAsTold gH_X9_beginAsTold n 46 [some (.inr (.inr (1))), some (.inl x1)] [] M
noncomputable def L_X9_beginAsTold_66 (C : gCl) (n : Nat) (x1 : Int) (M : gM) : Option gR := gRun gLay C (fun M v => some (M, v)) gC_X9_beginAsTold gH_X9_beginAsTold n 66 [some (.inr (.inr (1))), some (.inl x1)] [] M
set_option maxRecDepth 20000 in
set_option maxHeartbeats 4000000 in
theorem q_X9_beginAsTold_46 (C : gCl) (n : Nat) (x1 : Int) (M : gM) : L_X9_beginAsTold_46 C (n + 1) x1 M =
  cond (gLt x1 2) (
    gIf (gInb x1 2) (gIf (gB01 0) (
    L_X9_beginAsTold_46 C n (x1 + 1) (gU M 53 (gIx x1) 0)))) (
    L_X9_beginAsTold_66 C n 0 M) := rfl
set_option maxRecDepth 20000 in
set_option maxHeartbeats 4000000 in
theorem q_X9_beginAsTold_66 (C : gCl) (n : Nat) (x1 : Int) (M : gM) : L_X9_beginAsTold_66 C (n + 1) x1 M =
  cond (gLt x1 4) (
    gIf (gInb x1 4) (
    cond (gEq x1 ((3 : Nat) : Int)) (
      gIf (gB01 0) (
      L_X9_beginAsTold_66 C n (x1 + 1) (gU M 78 0 0))) (
    cond (gEq x1 ((2 : Nat) : Int)) (
      gIf (gB01 0) (
      L_X9_beginAsTold_66 C n (x1 + 1) (gU M 75 0 0))) (
    cond (gEq x1 ((1 : Nat) : Int)) (
      gIf (gB01 0) (
      L_X9_beginAsTold_66 C n (x1 + 1) (gU M 72 0 0))) (
    cond (gEq x1 ((0 : Nat) : Int)) (
      gIf (gB01 0) (
      L_X9_beginAsTold_66 C n (x1 + 1) (gU M 69 0 0))) (
    none)))))) (
    some (gU M 1 1 0, none)) := rfl
set_option maxRecDepth 20000 in
set_option maxHeartbeats 4000000 in
theorem q_X9_beginAsTold (N d : Nat)  (M : gM) : gEv N (d + 1) 88 [.inr (.inr (1))] M =
  gCv ((gEv N d) 7 [.inr (.inr (9)), .inr (.inr (12))] M) (fun M1 =>
  gCv ((gEv N d) 22 [.inr (.inr (15)), .inr (.inr (18))] M1) (fun M2 =>
  L_X9_beginAsTold_46 (gEv N d) N 0 (gU (gU M2 20 0 0) 54 0 0))) := rfl
set_option maxRecDepth 20000 in
set_option maxHeartbeats 4000000 in
theorem q_X9_areTwo (N d : Nat) (a0 : Int) (a1 : Int) (M : gM) : gEv N (d + 1) 89 [.inr (.inr (1)), .inl a0, .inl a1] M =
  gCi ((gEv N d) 24 [.inr (.inr (7)), .inl a0] M) (fun M1 r2 =>
  cond (gEq r2 0) (
    gIf (gB01 0) (some (M1, some (.inl 0)))) (
    gCi ((gEv N d) 24 [.inr (.inr (7)), .inl a1] M1) (fun M3 r4 =>
    cond (gEq r4 0) (
      gIf (gB01 0) (some (M3, some (.inl 0)))) (
      cond (gEq a0 a1) (
        gIf (gB01 0) (some (M3, some (.inl 0)))) (
        gIf (gB01 1) (some (M3, some (.inl 1)))))))) := rfl
noncomputable def L_X9_drawersThere_4 (C : gCl) (n : Nat) (x1 : Int) (x2 : Int) (M : gM) : Option gR := gRun gLay C (fun M v => some (M, v)) gC_X9_drawersThere gH_X9_drawersThere n 4 [some (.inr (.inr (1))), some (.inl x1), some (.inl x2)] [] M
set_option maxRecDepth 20000 in
set_option maxHeartbeats 4000000 in
theorem q_X9_drawersThere_4 (C : gCl) (n : Nat) (x1 : Int) (x2 : Int) (M : gM) : L_X9_drawersThere_4 C (n + 1) x1 x2 M =
  cond (gLt x2 4) (
    gIf (gInb x2 4) (
    cond (gEq x2 ((3 : Nat) : Int)) (
      cond (gEq (M 78 0) 0) (
        L_X9_drawersThere_4 C n x1 (x2 + 1) M) (
        L_X9_drawersThere_4 C n (x1 + 1) (x2 + 1) M)) (
    cond (gEq x2 ((2 : Nat) : Int)) (
      cond (gEq (M 75 0) 0) (
        L_X9_drawersThere_4 C n x1 (x2 + 1) M) (
        L_X9_drawersThere_4 C n (x1 + 1) (x2 + 1) M)) (
    cond (gEq x2 ((1 : Nat) : Int)) (
      cond (gEq (M 72 0) 0) (
        L_X9_drawersThere_4 C n x1 (x2 + 1) M) (
        L_X9_drawersThere_4 C n (x1 + 1) (x2 + 1) M)) (
    cond (gEq x2 ((0 : Nat) : Int)) (
      cond (gEq (M 69 0) 0) (
        L_X9_drawersThere_4 C n x1 (x2 + 1) M) (
        L_X9_drawersThere_4 C n (x1 + 1) (x2 + 1) M)) (
    none)))))) (
    some (M, some (.inl x1))) := rfl
set_option maxRecDepth 20000 in
set_option maxHeartbeats 4000000 in
theorem q_X9_drawersThere (N d : Nat)  (M : gM) : gEv N (d + 1) 90 [.inr (.inr (1))] M =
  L_X9_drawersThere_4 (gEv N d) N 0 0 M := rfl
set_option maxRecDepth 20000 in
set_option maxHeartbeats 4000000 in
theorem q_X9_isWithin (N d : Nat) (a0 : Int) (a1 : Int) (a2 : Int) (M : gM) : gEv N (d + 1) 91 [.inl a0, .inl a1, .inl a2] M =
  cond (gLt a0 a1) (
    gIf (gB01 0) (some (M, some (.inl 0)))) (
    cond (gLt a2 a0) (
      gIf (gB01 0) (some (M, some (.inl 0)))) (
      gIf (gB01 1) (some (M, some (.inl 1))))) := rfl
set_option maxRecDepth 20000 in
set_option maxHeartbeats 4000000 in
theorem q_X9_isDrawer (N d : Nat) (a0 : Int) (M : gM) : gEv N (d + 1) 92 [.inl a0] M =
  gCi ((gEv N d) 91 [.inl a0, .inl 0, .inl 3] M) (fun M1 r2 =>
  gIf (gB01 r2) (some (M1, some (.inl r2)))) := rfl
set_option maxRecDepth 20000 in
set_option maxHeartbeats 4000000 in
theorem q_X9_canBePut (N d : Nat) (a0 : Int) (a1 : Int) (M : gM) : gEv N (d + 1) 93 [.inl a0, .inl a1] M =
  cond (gEq a0 0) (
    gCi ((gEv N d) 91 [.inl a1, .inl ((-9999)), .inl 9999] M) (fun M1 r2 =>
    gIf (gB01 r2) (some (M1, some (.inl r2))))) (
  cond (gEq a0 1) (
    gCi ((gEv N d) 91 [.inl a1, .inl 0, .inl 17575] M) (fun M3 r4 =>
    gIf (gB01 r4) (some (M3, some (.inl r4))))) (
    cond (gEq a0 2) (
      gIf (gB01 1) (some (M, some (.inl 1)))) (
      cond (gEq a0 3) (
        gIf (gB01 1) (some (M, some (.inl 1)))) (
        gIf (gB01 0) (some (M, some (.inl 0))))))) := rfl
noncomputable def L_X9_isSuch_6 (C : gCl) (n : Nat) (x0 : Int) (x1 : Int) (x2 : Int) (x3 : Int) (M : gM) : Option gR := gRun gLay C (fun M v => some (M, v)) gC_X9_isSuch gH_X9_isSuch n 6 [some (.inl x0), some (.inl x1), some (.inl x2), some (.inl x3)] [] M
set_option maxRecDepth 20000 in
set_option maxHeartbeats 4000000 in
theorem q_X9_isSuch_6 (C : gCl) (n : Nat) (x0 : Int) (x1 : Int) (x2 : Int) (x3 : Int) (M : gM) : L_X9_isSuch_6 C (n + 1) x0 x1 x2 x3 M =
  cond (gLt x3 (((6 : Nat) : Int))) (
    cond (gEq x2 x1) (
      gIf (gB01 1) (some (M, some (.inl 1)))) (
      cond (gLt 0 x2) (
        cond (gLt x2 (((6 : Nat) : Int))) (
          gIf (gInb x2 6) (
          L_X9_isSuch_6 C n x0 x1 (((List.getD [0, 1, 2, 2, 1, 5] (gIx x2) 0 : Nat) : Int) - 1) (x3 + 1) M)) (
          gIf (gB01 0) (some (M, some (.inl 0))))) (
        gIf (gB01 0) (some (M, some (.inl 0)))))) (
    gIf (gB01 0) (some (M, some (.inl 0)))) := rfl
set_option maxRecDepth 20000 in
set_option maxHeartbeats 4000000 in
theorem q_X9_isSuch (N d : Nat) (a0 : Int) (a1 : Int) (M : gM) : gEv N (d + 1) 94 [.inl a0, .inl a1] M =
  L_X9_isSuch_6 (gEv N d) N a0 a1 (a0 + 1) 0 M := rfl
set_option maxRecDepth 20000 in
set_option maxHeartbeats 4000000 in
theorem q_X9_stepOf (N d : Nat) (a0 : Int) (M : gM) : gEv N (d + 1) 95 [.inl a0] M =
  cond (gEq 10 0) none (
  some (M, some (.inl (gMin (gDiv a0 10) 9)))) := rfl
noncomputable def L_X9_readingsAsGreater_4 (C : gCl) (n : Nat) (x0 : Int) (x1 : Int) (x2 : Int) (x3 : Int) (M : gM) : Option gR := gRun gLay C (fun M v => some (M, v)) gC_X9_readingsAsGreater gH_X9_readingsAsGreater n 4 [some (.inl x0), some (.inl x1), some (.inl x2), some (.inl x3), none] [] M
noncomputable def L_X9_readingsAsGreater_12 (C : gCl) (n : Nat) (x0 : Int) (x1 : Int) (x2 : Int) (x3 : Int) (x4 : Int) (M : gM) : Option gR := gRun gLay C (fun M v => some (M, v)) gC_X9_readingsAsGreater gH_X9_readingsAsGreater n 12 [some (.inl x0), some (.inl x1), some (.inl x2), some (.inl x3), some (.inl x4)] [] M
set_option maxRecDepth 20000 in
set_option maxHeartbeats 4000000 in
theorem q_X9_readingsAsGreater_4 (C : gCl) (n : Nat) (x0 : Int) (x1 : Int) (x2 : Int) (x3 : Int) (M : gM) : L_X9_readingsAsGreater_4 C (n + 1) x0 x1 x2 x3 M =
  cond (gLt 1 x3) (
    some (M, some (.inl x2))) (
    L_X9_readingsAsGreater_12 C n x0 x1 x2 x3 ((-1)) M) := rfl
set_option maxRecDepth 20000 in
set_option maxHeartbeats 4000000 in
theorem q_X9_readingsAsGreater_12 (C : gCl) (n : Nat) (x0 : Int) (x1 : Int) (x2 : Int) (x3 : Int) (x4 : Int) (M : gM) : L_X9_readingsAsGreater_12 C (n + 1) x0 x1 x2 x3 x4 M =
  cond (gLt 1 x4) (
    L_X9_readingsAsGreater_4 C n x0 x1 x2 (x3 + 1) M) (
    cond (gLt x4 (x0 + x3)) (
      gCi (C 97 [.inl x3, .inl x1] M) (fun M1 r2 =>
      gCi (C 97 [.inl x4, .inl x1] M1) (fun M3 r4 =>
      L_X9_readingsAsGreater_12 C n x0 x1 (x2 + (r2 * r4)) x3 (x4 + 1) M3))) (
      L_X9_readingsAsGreater_12 C n x0 x1 x2 x3 (x4 + 1) M)) := rfl
set_option maxRecDepth 20000 in
set_option maxHeartbeats 4000000 in
theorem q_X9_readingsAsGreater (N d : Nat) (a0 : Int) (a1 : Int) (M : gM) : gEv N (d + 1) 96 [.inl a0, .inl a1] M =
  L_X9_readingsAsGreater_4 (gEv N d) N a0 a1 0 ((-1)) M := rfl
set_option maxRecDepth 20000 in
set_option maxHeartbeats 4000000 in
theorem q_X9_readingsOff (N d : Nat) (a0 : Int) (a1 : Int) (M : gM) : gEv N (d + 1) 97 [.inl a0, .inl a1] M =
  cond (gEq a0 0) (
    some (M, some (.inl (20 - (2 * a1))))) (
    some (M, some (.inl a1))) := rfl
noncomputable def L_X9_commonDivisor_7 (C : gCl) (n : Nat) (x0 : Int) (x1 : Int) (x2 : Int) (x3 : Int) (x4 : Int) (M : gM) : Option gR := gRun gLay C (fun M v => some (M, v)) gC_X9_commonDivisor gH_X9_commonDivisor n 7 [some (.inl x0), some (.inl x1), some (.inl x2), some (.inl x3), some (.inl x4), none] [] M
set_option maxRecDepth 20000 in
set_option maxHeartbeats 4000000 in
theorem q_X9_commonDivisor_7 (C : gCl) (n : Nat) (x0 : Int) (x1 : Int) (x2 : Int) (x3 : Int) (x4 : Int) (M : gM) : L_X9_commonDivisor_7 C (n + 1) x0 x1 x2 x3 x4 M =
  cond (gLt x4 400) (
    cond (gLt 0 x3) (
      cond (gEq x3 0) none (
      L_X9_commonDivisor_7 C n x0 x1 x3 (gRem x2 x3) (x4 + 1) M)) (
      some (M, some (.inl (gMax x2 1))))) (
    some (M, some (.inl (gMax x2 1)))) := rfl
set_option maxRecDepth 20000 in
set_option maxHeartbeats 4000000 in
theorem q_X9_commonDivisor (N d : Nat) (a0 : Int) (a1 : Int) (M : gM) : gEv N (d + 1) 98 [.inl a0, .inl a1] M =
  L_X9_commonDivisor_7 (gEv N d) N a0 a1 a0 a1 0 M := rfl
