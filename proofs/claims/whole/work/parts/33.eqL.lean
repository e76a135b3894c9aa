-- 33: the law's blocks (by program)
set_option maxRecDepth 100000 in
set_option maxHeartbeats 8000000 in
theorem q_law_18 (N d : Nat) (x : Int) (M : gM) : gLaw N d 18 x M =
  cond (gLt ((M 1001 0) - 6) x) (
    some (1142, gLl x, [], M)) (
    gIf (gInb x (M 1001 0).toNat) (
    cond (gEq (gAnd (M 1000 (gIx x)) 63) 0) (
      gIf (gInb (x + 1) (M 1001 0).toNat) (
      gCi ((gEv N d) 53 [.inr (.inr (1)), .inl (M 1000 (gIx (x + 1)))] M) (fun M1 r2 =>
      gIf (gInb (x + 1) (M1 1001 0).toNat) (
      gCi ((gEv N d) 100 [.inr (.inr (82)), .inl (M1 1000 (gIx (x + 1)))] M1) (fun M3 r4 =>
      cond (gEq r2 r4) (
        some (1136, gLl x, [], M3)) (
        gIf (gB01 0) (none))))))) (
    cond (gEq (gAnd (M 1000 (gIx x)) 63) 1) (
      gCi ((gEv N d) 54 [.inr (.inr (1))] M) (fun M5 r6 =>
      gCi ((gEv N d) 101 [.inr (.inr (82))] M5) (fun M7 r8 =>
      cond (gEq r6 r8) (
        some (1136, gLl x, [], M7)) (
        gIf (gB01 0) (none))))) (
    cond (gEq (gAnd (M 1000 (gIx x)) 63) 2) (
      gCi ((gEv N d) 55 [.inr (.inr (1))] M) (fun M9 r10 =>
      gCi ((gEv N d) 113 [.inr (.inr (82))] M9) (fun M11 r12 =>
      cond (gEq r10 r12) (
        some (1136, gLl x, [], M11)) (
        gIf (gB01 0) (none))))) (
    cond (gEq (gAnd (M 1000 (gIx x)) 63) 3) (
      gCi ((gEv N d) 56 [.inr (.inr (1))] M) (fun M13 r14 =>
      gCi ((gEv N d) 115 [.inr (.inr (82))] M13) (fun M15 r16 =>
      cond (gEq r14 r16) (
        some (1136, gLl x, [], M15)) (
        gIf (gB01 0) (none))))) (
    cond (gEq (gAnd (M 1000 (gIx x)) 63) 4) (
      gIf (gInb (x + 1) (M 1001 0).toNat) (
      gIf (gInb (x + 2) (M 1001 0).toNat) (
      gCi ((gEv N d) 57 [.inr (.inr (1)), .inl (M 1000 (gIx (x + 1))), .inl (M 1000 (gIx (x + 2)))] M) (fun M17 r18 =>
      gIf (gInb (x + 1) (M17 1001 0).toNat) (
      gIf (gInb (x + 2) (M17 1001 0).toNat) (
      gCi ((gEv N d) 127 [.inr (.inr (82)), .inl (M17 1000 (gIx (x + 1))), .inl (M17 1000 (gIx (x + 2)))] M17) (fun M19 r20 =>
      cond (gEq r18 r20) (
        some (1136, gLl x, [], M19)) (
        gIf (gB01 0) (none))))))))) (
    cond (gEq (gAnd (M 1000 (gIx x)) 63) 5) (
      gIf (gInb (x + 1) (M 1001 0).toNat) (
      gIf (gInb (x + 2) (M 1001 0).toNat) (
      gCi ((gEv N d) 58 [.inr (.inr (1)), .inl (M 1000 (gIx (x + 1))), .inl (M 1000 (gIx (x + 2)))] M) (fun M21 r22 =>
      gIf (gInb (x + 1) (M21 1001 0).toNat) (
      gIf (gInb (x + 2) (M21 1001 0).toNat) (
      gCi ((gEv N d) 128 [.inr (.inr (82)), .inl (M21 1000 (gIx (x + 1))), .inl (M21 1000 (gIx (x + 2)))] M21) (fun M23 r24 =>
      cond (gEq r22 r24) (
        some (1136, gLl x, [], M23)) (
        gIf (gB01 0) (none))))))))) (
    cond (gEq (gAnd (M 1000 (gIx x)) 63) 6) (
      gIf (gInb (x + 1) (M 1001 0).toNat) (
      gIf (gInb (x + 2) (M 1001 0).toNat) (
      gCi ((gEv N d) 59 [.inr (.inr (1)), .inl (M 1000 (gIx (x + 1))), .inl (M 1000 (gIx (x + 2)))] M) (fun M25 r26 =>
      gIf (gInb (x + 1) (M25 1001 0).toNat) (
      gIf (gInb (x + 2) (M25 1001 0).toNat) (
      gCi ((gEv N d) 129 [.inr (.inr (82)), .inl (M25 1000 (gIx (x + 1))), .inl (M25 1000 (gIx (x + 2)))] M25) (fun M27 r28 =>
      cond (gEq r26 r28) (
        some (1136, gLl x, [], M27)) (
        gIf (gB01 0) (none))))))))) (
    cond (gEq (gAnd (M 1000 (gIx x)) 63) 7) (
      gIf (gInb (x + 1) (M 1001 0).toNat) (
      gIf (gInb (x + 2) (M 1001 0).toNat) (
      gCi ((gEv N d) 60 [.inr (.inr (1)), .inl (M 1000 (gIx (x + 1))), .inl (M 1000 (gIx (x + 2)))] M) (fun M29 r30 =>
      gIf (gInb (x + 1) (M29 1001 0).toNat) (
      gIf (gInb (x + 2) (M29 1001 0).toNat) (
      gCi ((gEv N d) 131 [.inr (.inr (82)), .inl (M29 1000 (gIx (x + 1))), .inl (M29 1000 (gIx (x + 2)))] M29) (fun M31 r32 =>
      cond (gEq r30 r32) (
        some (1136, gLl x, [], M31)) (
        gIf (gB01 0) (none))))))))) (
    cond (gEq (gAnd (M 1000 (gIx x)) 63) 8) (
      gCi ((gEv N d) 61 [.inr (.inr (1))] M) (fun M33 r34 =>
      gCi ((gEv N d) 132 [.inr (.inr (82))] M33) (fun M35 r36 =>
      cond (gEq r34 r36) (
        some (1136, gLl x, [], M35)) (
        gIf (gB01 0) (none))))) (
    cond (gEq (gAnd (M 1000 (gIx x)) 63) 9) (
      gIf (gInb (x + 1) (M 1001 0).toNat) (
      gCi ((gEv N d) 62 [.inr (.inr (1)), .inl (M 1000 (gIx (x + 1)))] M) (fun M37 r38 =>
      gIf (gInb (x + 1) (M37 1001 0).toNat) (
      gCi ((gEv N d) 134 [.inr (.inr (82)), .inl (M37 1000 (gIx (x + 1)))] M37) (fun M39 r40 =>
      cond (gEq r38 r40) (
        some (1136, gLl x, [], M39)) (
        gIf (gB01 0) (none))))))) (
    cond (gEq (gAnd (M 1000 (gIx x)) 63) 10) (
      gIf (gInb (x + 1) (M 1001 0).toNat) (
      gIf (gInb (x + 2) (M 1001 0).toNat) (
      gCi ((gEv N d) 63 [.inr (.inr (1)), .inl (M 1000 (gIx (x + 1))), .inl (M 1000 (gIx (x + 2)))] M) (fun M41 r42 =>
      gIf (gInb (x + 1) (M41 1001 0).toNat) (
      gIf (gInb (x + 2) (M41 1001 0).toNat) (
      gCi ((gEv N d) 135 [.inr (.inr (82)), .inl (M41 1000 (gIx (x + 1))), .inl (M41 1000 (gIx (x + 2)))] M41) (fun M43 r44 =>
      cond (gEq r42 r44) (
        some (1136, gLl x, [], M43)) (
        gIf (gB01 0) (none))))))))) (
    cond (gEq (gAnd (M 1000 (gIx x)) 63) 11) (
      gIf (gInb (x + 1) (M 1001 0).toNat) (
      gCi ((gEv N d) 64 [.inr (.inr (1)), .inl (M 1000 (gIx (x + 1)))] M) (fun M45 r46 =>
      gIf (gInb (x + 1) (M45 1001 0).toNat) (
      gCi ((gEv N d) 136 [.inr (.inr (82)), .inl (M45 1000 (gIx (x + 1)))] M45) (fun M47 r48 =>
      cond (gEq r46 r48) (
        some (1136, gLl x, [], M47)) (
        gIf (gB01 0) (none))))))) (
    cond (gEq (gAnd (M 1000 (gIx x)) 63) 12) (
      gCi ((gEv N d) 65 [.inr (.inr (1))] M) (fun M49 r50 =>
      gCi ((gEv N d) 137 [.inr (.inr (82))] M49) (fun M51 r52 =>
      cond (gEq r50 r52) (
        some (1136, gLl x, [], M51)) (
        gIf (gB01 0) (none))))) (
    cond (gEq (gAnd (M 1000 (gIx x)) 63) 13) (
      gIf (gInb (x + 1) (M 1001 0).toNat) (
      gCi ((gEv N d) 66 [.inr (.inr (1)), .inl (M 1000 (gIx (x + 1)))] M) (fun M53 r54 =>
      gIf (gInb (x + 1) (M53 1001 0).toNat) (
      gCi ((gEv N d) 138 [.inr (.inr (82)), .inl (M53 1000 (gIx (x + 1)))] M53) (fun M55 r56 =>
      cond (gEq r54 r56) (
        some (1136, gLl x, [], M55)) (
        gIf (gB01 0) (none))))))) (
    cond (gEq (gAnd (M 1000 (gIx x)) 63) 14) (
      gIf (gInb (x + 1) (M 1001 0).toNat) (
      gCi ((gEv N d) 67 [.inr (.inr (1)), .inl (M 1000 (gIx (x + 1)))] M) (fun M57 r58 =>
      gIf (gInb (x + 1) (M57 1001 0).toNat) (
      gCi ((gEv N d) 139 [.inr (.inr (82)), .inl (M57 1000 (gIx (x + 1)))] M57) (fun M59 r60 =>
      cond (gEq r58 r60) (
        some (1136, gLl x, [], M59)) (
        gIf (gB01 0) (none))))))) (
    cond (gEq (gAnd (M 1000 (gIx x)) 63) 15) (
      gIf (gInb (x + 1) (M 1001 0).toNat) (
      gIf (gInb (x + 2) (M 1001 0).toNat) (
      gIf (gInb (x + 3) (M 1001 0).toNat) (
      gCi ((gEv N d) 68 [.inr (.inr (1)), .inl (M 1000 (gIx (x + 1))), .inl (M 1000 (gIx (x + 2))), .inl (M 1000 (gIx (x + 3)))] M) (fun M61 r62 =>
      gIf (gInb (x + 1) (M61 1001 0).toNat) (
      gIf (gInb (x + 2) (M61 1001 0).toNat) (
      gIf (gInb (x + 3) (M61 1001 0).toNat) (
      gCi ((gEv N d) 141 [.inr (.inr (82)), .inl (M61 1000 (gIx (x + 1))), .inl (M61 1000 (gIx (x + 2))), .inl (M61 1000 (gIx (x + 3)))] M61) (fun M63 r64 =>
      cond (gEq r62 r64) (
        some (1136, gLl x, [], M63)) (
        gIf (gB01 0) (none))))))))))) (
    cond (gEq (gAnd (M 1000 (gIx x)) 63) 16) (
      gIf (gInb (x + 1) (M 1001 0).toNat) (
      gIf (gInb (x + 2) (M 1001 0).toNat) (
      gCi ((gEv N d) 69 [.inr (.inr (1)), .inl (M 1000 (gIx (x + 1))), .inl (M 1000 (gIx (x + 2)))] M) (fun M65 r66 =>
      gIf (gInb (x + 1) (M65 1001 0).toNat) (
      gIf (gInb (x + 2) (M65 1001 0).toNat) (
      gCi ((gEv N d) 142 [.inr (.inr (82)), .inl (M65 1000 (gIx (x + 1))), .inl (M65 1000 (gIx (x + 2)))] M65) (fun M67 r68 =>
      cond (gEq r66 r68) (
        some (1136, gLl x, [], M67)) (
        gIf (gB01 0) (none))))))))) (
    cond (gEq (gAnd (M 1000 (gIx x)) 63) 17) (
      gIf (gInb (x + 1) (M 1001 0).toNat) (
      gIf (gInb (x + 2) (M 1001 0).toNat) (
      gCi ((gEv N d) 70 [.inr (.inr (1)), .inl (M 1000 (gIx (x + 1))), .inl (M 1000 (gIx (x + 2)))] M) (fun M69 r70 =>
      gIf (gInb (x + 1) (M69 1001 0).toNat) (
      gIf (gInb (x + 2) (M69 1001 0).toNat) (
      gCi ((gEv N d) 143 [.inr (.inr (82)), .inl (M69 1000 (gIx (x + 1))), .inl (M69 1000 (gIx (x + 2)))] M69) (fun M71 r72 =>
      cond (gEq r70 r72) (
        some (1136, gLl x, [], M71)) (
        gIf (gB01 0) (none))))))))) (
    cond (gEq (gAnd (M 1000 (gIx x)) 63) 18) (
      gCi ((gEv N d) 71 [.inr (.inr (1))] M) (fun M73 r74 =>
      gCi ((gEv N d) 144 [.inr (.inr (82))] M73) (fun M75 r76 =>
      cond (gEq r74 r76) (
        some (1136, gLl x, [], M75)) (
        gIf (gB01 0) (none))))) (
    cond (gEq (gAnd (M 1000 (gIx x)) 63) 19) (
      gIf (gInb (x + 1) (M 1001 0).toNat) (
      gCi ((gEv N d) 72 [.inr (.inr (1)), .inl (M 1000 (gIx (x + 1)))] M) (fun M77 r78 =>
      gIf (gInb (x + 1) (M77 1001 0).toNat) (
      gCi ((gEv N d) 149 [.inr (.inr (82)), .inl (M77 1000 (gIx (x + 1)))] M77) (fun M79 r80 =>
      cond (gEq r78 r80) (
        some (1136, gLl x, [], M79)) (
        gIf (gB01 0) (none))))))) (
    cond (gEq (gAnd (M 1000 (gIx x)) 63) 20) (
      gCi ((gEv N d) 73 [.inr (.inr (1))] M) (fun M81 r82 =>
      gCi ((gEv N d) 151 [.inr (.inr (82))] M81) (fun M83 r84 =>
      cond (gEq r82 r84) (
        some (1136, gLl x, [], M83)) (
        gIf (gB01 0) (none))))) (
    cond (gEq (gAnd (M 1000 (gIx x)) 63) 21) (
      gCi ((gEv N d) 74 [.inr (.inr (1))] M) (fun M85 r86 =>
      gCi ((gEv N d) 152 [.inr (.inr (82))] M85) (fun M87 r88 =>
      cond (gEq r86 r88) (
        some (1136, gLl x, [], M87)) (
        gIf (gB01 0) (none))))) (
    cond (gEq (gAnd (M 1000 (gIx x)) 63) 22) (
      gIf (gInb (x + 1) (M 1001 0).toNat) (
      gIf (gInb (x + 2) (M 1001 0).toNat) (
      gCi ((gEv N d) 75 [.inr (.inr (1)), .inl (M 1000 (gIx (x + 1))), .inl (M 1000 (gIx (x + 2)))] M) (fun M89 r90 =>
      gIf (gInb (x + 1) (M89 1001 0).toNat) (
      gIf (gInb (x + 2) (M89 1001 0).toNat) (
      gCi ((gEv N d) 154 [.inr (.inr (82)), .inl (M89 1000 (gIx (x + 1))), .inl (M89 1000 (gIx (x + 2)))] M89) (fun M91 r92 =>
      cond (gEq r90 r92) (
        some (1136, gLl x, [], M91)) (
        gIf (gB01 0) (none))))))))) (
    cond (gEq (gAnd (M 1000 (gIx x)) 63) 23) (
      gIf (gInb (x + 1) (M 1001 0).toNat) (
      gIf (gInb (x + 2) (M 1001 0).toNat) (
      gIf (gInb (x + 3) (M 1001 0).toNat) (
      gIf (gInb (x + 4) (M 1001 0).toNat) (
      gCi ((gEv N d) 76 [.inr (.inr (1)), .inl (M 1000 (gIx (x + 1))), .inl (M 1000 (gIx (x + 2))), .inl (M 1000 (gIx (x + 3))), .inl (M 1000 (gIx (x + 4)))] M) (fun M93 r94 =>
      gIf (gInb (x + 1) (M93 1001 0).toNat) (
      gIf (gInb (x + 2) (M93 1001 0).toNat) (
      gIf (gInb (x + 3) (M93 1001 0).toNat) (
      gIf (gInb (x + 4) (M93 1001 0).toNat) (
      gCi ((gEv N d) 155 [.inr (.inr (82)), .inl (M93 1000 (gIx (x + 1))), .inl (M93 1000 (gIx (x + 2))), .inl (M93 1000 (gIx (x + 3))), .inl (M93 1000 (gIx (x + 4)))] M93) (fun M95 r96 =>
      cond (gEq r94 r96) (
        some (1136, gLl x, [], M95)) (
        gIf (gB01 0) (none))))))))))))) (
    cond (gEq (gAnd (M 1000 (gIx x)) 63) 24) (
      gIf (gInb (x + 1) (M 1001 0).toNat) (
      gIf (gInb (x + 2) (M 1001 0).toNat) (
      gIf (gInb (x + 3) (M 1001 0).toNat) (
      gCi ((gEv N d) 77 [.inr (.inr (1)), .inl (M 1000 (gIx (x + 1))), .inl (M 1000 (gIx (x + 2))), .inl (M 1000 (gIx (x + 3)))] M) (fun M97 r98 =>
      gIf (gInb (x + 1) (M97 1001 0).toNat) (
      gIf (gInb (x + 2) (M97 1001 0).toNat) (
      gIf (gInb (x + 3) (M97 1001 0).toNat) (
      gCi ((gEv N d) 156 [.inr (.inr (82)), .inl (M97 1000 (gIx (x + 1))), .inl (M97 1000 (gIx (x + 2))), .inl (M97 1000 (gIx (x + 3)))] M97) (fun M99 r100 =>
      cond (gEq r98 r100) (
        some (1136, gLl x, [], M99)) (
        gIf (gB01 0) (none))))))))))) (
    cond (gEq (gAnd (M 1000 (gIx x)) 63) 25) (
      gCi ((gEv N d) 78 [.inr (.inr (1))] M) (fun M101 r102 =>
      gCi ((gEv N d) 157 [.inr (.inr (82))] M101) (fun M103 r104 =>
      cond (gEq r102 r104) (
        some (1136, gLl x, [], M103)) (
        gIf (gB01 0) (none))))) (
    cond (gEq (gAnd (M 1000 (gIx x)) 63) 26) (
      gIf (gInb (x + 1) (M 1001 0).toNat) (
      gIf (gInb (x + 2) (M 1001 0).toNat) (
      gCi ((gEv N d) 79 [.inr (.inr (1)), .inl (M 1000 (gIx (x + 1))), .inl (M 1000 (gIx (x + 2)))] M) (fun M105 r106 =>
      gIf (gInb (x + 1) (M105 1001 0).toNat) (
      gIf (gInb (x + 2) (M105 1001 0).toNat) (
      gCi ((gEv N d) 159 [.inr (.inr (82)), .inl (M105 1000 (gIx (x + 1))), .inl (M105 1000 (gIx (x + 2)))] M105) (fun M107 r108 =>
      cond (gEq r106 r108) (
        some (1136, gLl x, [], M107)) (
        gIf (gB01 0) (none))))))))) (
    cond (gEq (gAnd (M 1000 (gIx x)) 63) 27) (
      gIf (gInb (x + 1) (M 1001 0).toNat) (
      gIf (gInb (x + 2) (M 1001 0).toNat) (
      gCi ((gEv N d) 80 [.inr (.inr (1)), .inl (M 1000 (gIx (x + 1))), .inl (M 1000 (gIx (x + 2)))] M) (fun M109 r110 =>
      gIf (gInb (x + 1) (M109 1001 0).toNat) (
      gIf (gInb (x + 2) (M109 1001 0).toNat) (
      gCi ((gEv N d) 161 [.inr (.inr (82)), .inl (M109 1000 (gIx (x + 1))), .inl (M109 1000 (gIx (x + 2)))] M109) (fun M111 r112 =>
      cond (gEq r110 r112) (
        some (1136, gLl x, [], M111)) (
        gIf (gB01 0) (none))))))))) (
    cond (gEq (gAnd (M 1000 (gIx x)) 63) 28) (
      gIf (gInb (x + 1) (M 1001 0).toNat) (
      gIf (gInb (x + 2) (M 1001 0).toNat) (
      gIf (gInb (x + 3) (M 1001 0).toNat) (
      gIf (gInb (x + 4) (M 1001 0).toNat) (
      gCi ((gEv N d) 81 [.inr (.inr (1)), .inl (M 1000 (gIx (x + 1))), .inl (M 1000 (gIx (x + 2))), .inl (M 1000 (gIx (x + 3))), .inl (M 1000 (gIx (x + 4)))] M) (fun M113 r114 =>
      gIf (gInb (x + 1) (M113 1001 0).toNat) (
      gIf (gInb (x + 2) (M113 1001 0).toNat) (
      gIf (gInb (x + 3) (M113 1001 0).toNat) (
      gIf (gInb (x + 4) (M113 1001 0).toNat) (
      gCi ((gEv N d) 163 [.inr (.inr (82)), .inl (M113 1000 (gIx (x + 1))), .inl (M113 1000 (gIx (x + 2))), .inl (M113 1000 (gIx (x + 3))), .inl (M113 1000 (gIx (x + 4)))] M113) (fun M115 r116 =>
      cond (gEq r114 r116) (
        some (1136, gLl x, [], M115)) (
        gIf (gB01 0) (none))))))))))))) (
    cond (gEq (gAnd (M 1000 (gIx x)) 63) 29) (
      gIf (gInb (x + 1) (M 1001 0).toNat) (
      gIf (gInb (x + 2) (M 1001 0).toNat) (
      gIf (gInb (x + 3) (M 1001 0).toNat) (
      gCi ((gEv N d) 82 [.inr (.inr (1)), .inl (M 1000 (gIx (x + 1))), .inl (M 1000 (gIx (x + 2))), .inl (M 1000 (gIx (x + 3)))] M) (fun M117 r118 =>
      gIf (gInb (x + 1) (M117 1001 0).toNat) (
      gIf (gInb (x + 2) (M117 1001 0).toNat) (
      gIf (gInb (x + 3) (M117 1001 0).toNat) (
      gCi ((gEv N d) 164 [.inr (.inr (82)), .inl (M117 1000 (gIx (x + 1))), .inl (M117 1000 (gIx (x + 2))), .inl (M117 1000 (gIx (x + 3)))] M117) (fun M119 r120 =>
      cond (gEq r118 r120) (
        some (1136, gLl x, [], M119)) (
        gIf (gB01 0) (none))))))))))) (
    cond (gEq (gAnd (M 1000 (gIx x)) 63) 30) (
      gIf (gInb (x + 1) (M 1001 0).toNat) (
      gCi ((gEv N d) 83 [.inr (.inr (1)), .inl (M 1000 (gIx (x + 1)))] M) (fun M121 r122 =>
      gIf (gInb (x + 1) (M121 1001 0).toNat) (
      gCi ((gEv N d) 166 [.inr (.inr (82)), .inl (M121 1000 (gIx (x + 1)))] M121) (fun M123 r124 =>
      cond (gEq r122 r124) (
        some (1136, gLl x, [], M123)) (
        gIf (gB01 0) (none))))))) (
    cond (gEq (gAnd (M 1000 (gIx x)) 63) 31) (
      gIf (gInb (x + 1) (M 1001 0).toNat) (
      gIf (gInb (x + 2) (M 1001 0).toNat) (
      gIf (gInb (x + 3) (M 1001 0).toNat) (
      gIf (gInb (x + 4) (M 1001 0).toNat) (
      gIf (gInb (x + 5) (M 1001 0).toNat) (
      gCi ((gEv N d) 84 [.inr (.inr (1)), .inl (M 1000 (gIx (x + 1))), .inl (M 1000 (gIx (x + 2))), .inl (M 1000 (gIx (x + 3))), .inl (M 1000 (gIx (x + 4))), .inl (M 1000 (gIx (x + 5)))] M) (fun M125 r126 =>
      gIf (gInb (x + 1) (M125 1001 0).toNat) (
      gIf (gInb (x + 2) (M125 1001 0).toNat) (
      gIf (gInb (x + 3) (M125 1001 0).toNat) (
      gIf (gInb (x + 4) (M125 1001 0).toNat) (
      gIf (gInb (x + 5) (M125 1001 0).toNat) (
      gCi ((gEv N d) 168 [.inr (.inr (82)), .inl (M125 1000 (gIx (x + 1))), .inl (M125 1000 (gIx (x + 2))), .inl (M125 1000 (gIx (x + 3))), .inl (M125 1000 (gIx (x + 4))), .inl (M125 1000 (gIx (x + 5)))] M125) (fun M127 r128 =>
      cond (gEq r126 r128) (
        some (1136, gLl x, [], M127)) (
        gIf (gB01 0) (none))))))))))))))) (
    cond (gEq (gAnd (M 1000 (gIx x)) 63) 32) (
      gIf (gInb (x + 1) (M 1001 0).toNat) (
      gCi ((gEv N d) 85 [.inr (.inr (1)), .inl (M 1000 (gIx (x + 1)))] M) (fun M129 r130 =>
      gIf (gInb (x + 1) (M129 1001 0).toNat) (
      gCi ((gEv N d) 169 [.inr (.inr (82)), .inl (M129 1000 (gIx (x + 1)))] M129) (fun M131 r132 =>
      cond (gEq r130 r132) (
        some (1136, gLl x, [], M131)) (
        gIf (gB01 0) (none))))))) (
    cond (gEq (gAnd (M 1000 (gIx x)) 63) 33) (
      gIf (gInb (x + 1) (M 1001 0).toNat) (
      gCi ((gEv N d) 86 [.inr (.inr (1)), .inl (M 1000 (gIx (x + 1)))] M) (fun M133 r134 =>
      gIf (gInb (x + 1) (M133 1001 0).toNat) (
      gCi ((gEv N d) 174 [.inr (.inr (82)), .inl (M133 1000 (gIx (x + 1)))] M133) (fun M135 r136 =>
      cond (gEq r134 r136) (
        some (1136, gLl x, [], M135)) (
        gIf (gB01 0) (none))))))) (
      some (1136, gLl x, [], M))))))))))))))))))))))))))))))))))))) := rfl
set_option maxRecDepth 100000 in
set_option maxHeartbeats 8000000 in
theorem q_law_1136 (N d : Nat) (x : Int) (M : gM) : gLaw N d 1136 x M =
  some (18, gLl (x + 6), [], M) := rfl
