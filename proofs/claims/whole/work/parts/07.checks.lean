-- 07: the tables are checked; a step of the small machine is a step of the machine
def gWd (w : Nat) (c : Cond) : Bool := decide (lw_tbl[w]? = some c) && goodWord c
theorem gWd_UW {w : Nat} {c : Cond} (h : gWd w c = true) : c ∈ gUW := by
  unfold gWd at h
  rw [Bool.and_eq_true, decide_eq_true_iff] at h
  exact List.mem_filter.mpr ⟨List.mem_of_getElem? h.1, h.2⟩
abbrev gTI : Type := MethodName × ByteArray × Nat × Option FieldType
def gTab (k : Nat) : Option gTI := cond (Nat.ble 900 k) (cond (Nat.beq k 900) (some (yJ0_length_8abf5, cJ0_length_8abf5, 1, some .int)) (some (yJ0_charAt_5068e, cJ0_charAt_5068e, 2, some .char))) (match gMi k with
  | some q => some (q.1, q.2.1, q.2.2.1, q.2.2.2.1)
  | none => none)
/-- the words of a called method, by their places in the table -/
abbrev gCP : Type := Nat × Nat × Nat × Nat
def gCalVB (y : MethodName) (b : ByteArray) (mL : Nat) (rt : Option FieldType) (w : gCP) : Bool := gWd w.1 (.instanceMethod y) && gWd w.2.1 (.selects y.cls y y) && gWd w.2.2.1 (.initialized y.cls) && gWd w.2.2.2 (.code y b mL rt) && decide (y.cls ≠ "java/lang/invoke/MethodHandle") && decide (y.cls ≠ "java/lang/invoke/VarHandle") && Nat.ble mL 41
def gCalSB (y : MethodName) (b : ByteArray) (mL : Nat) (rt : Option FieldType) (w : gCP) : Bool := gWd w.1 (.static y) && gWd w.2.2.1 (.initialized y.cls) && gWd w.2.2.2 (.code y b mL rt) && decide (y.cls ≠ "java/lang/invoke/MethodHandle") && decide (y.cls ≠ "java/lang/invoke/VarHandle") && Nat.ble mL 41
def gArgs (y : MethodName) (n : Nat) : Bool := decide ((parseMethodDescriptor y.desc).map (fun d => d.parameters.length) = some n)
def gCPl (k : Nat) : Option gCP := cond (Nat.ble 900 k) (cond (Nat.beq k 900) (some (390, 391, 67, 392)) (some (400, 401, 67, 402))) (cond (Nat.blt k 87) (cond (Nat.blt k 43) (cond (Nat.blt k 21) (cond (Nat.blt k 10) (cond (Nat.blt k 5) (cond (Nat.blt k 2) (cond (Nat.blt k 1) (cond (Nat.beq k 0) (some (741, 742, 65, 743)) (none)) (cond (Nat.beq k 1) (some (752, 753, 65, 754)) (none))) (cond (Nat.blt k 3) (cond (Nat.beq k 2) (some (787, 788, 65, 789)) (none)) (cond (Nat.blt k 4) (cond (Nat.beq k 3) (some (765, 766, 65, 767)) (none)) (cond (Nat.beq k 4) (some (769, 770, 65, 771)) (none))))) (cond (Nat.blt k 7) (cond (Nat.blt k 6) (cond (Nat.beq k 5) (some (773, 774, 65, 775)) (none)) (cond (Nat.beq k 6) (some (778, 17, 65, 779)) (none))) (cond (Nat.blt k 8) (cond (Nat.beq k 7) (some (484, 485, 59, 486)) (none)) (cond (Nat.blt k 9) (cond (Nat.beq k 8) (some (512, 513, 59, 514)) (none)) (cond (Nat.beq k 9) (some (476, 477, 59, 478)) (none)))))) (cond (Nat.blt k 15) (cond (Nat.blt k 12) (cond (Nat.blt k 11) (cond (Nat.beq k 10) (some (588, 589, 59, 590)) (none)) (cond (Nat.beq k 11) (some (574, 575, 59, 576)) (none))) (cond (Nat.blt k 13) (cond (Nat.beq k 12) (some (508, 509, 59, 510)) (none)) (cond (Nat.blt k 14) (cond (Nat.beq k 13) (some (677, 678, 64, 679)) (none)) (cond (Nat.beq k 14) (some (682, 0, 64, 683)) (none))))) (cond (Nat.blt k 18) (cond (Nat.blt k 16) (cond (Nat.beq k 15) (some (634, 635, 63, 636)) (none)) (cond (Nat.blt k 17) (cond (Nat.beq k 16) (some (639, 640, 63, 641)) (none)) (cond (Nat.beq k 17) (some (644, 12, 63, 645)) (none)))) (cond (Nat.blt k 19) (cond (Nat.beq k 18) (some (648, 13, 63, 649)) (none)) (cond (Nat.blt k 20) (cond (Nat.beq k 19) (some (656, 657, 63, 658)) (none)) (cond (Nat.beq k 20) (some (664, 665, 63, 666)) (none))))))) (cond (Nat.blt k 32) (cond (Nat.blt k 26) (cond (Nat.blt k 23) (cond (Nat.blt k 22) (cond (Nat.beq k 21) (some (670, 14, 63, 671)) (none)) (cond (Nat.beq k 22) (some (491, 492, 60, 493)) (none))) (cond (Nat.blt k 24) (cond (Nat.beq k 23) (some (468, 469, 60, 470)) (none)) (cond (Nat.blt k 25) (cond (Nat.beq k 24) (some (500, 501, 58, 502)) (none)) (cond (Nat.beq k 25) (some (472, 473, 58, 474)) (none))))) (cond (Nat.blt k 29) (cond (Nat.blt k 27) (cond (Nat.beq k 26) (some (569, 570, 58, 571)) (none)) (cond (Nat.blt k 28) (cond (Nat.beq k 27) (some (504, 505, 58, 506)) (none)) (cond (Nat.beq k 28) (some (527, 528, 58, 529)) (none)))) (cond (Nat.blt k 30) (cond (Nat.beq k 29) (some (522, 523, 58, 524)) (none)) (cond (Nat.blt k 31) (cond (Nat.beq k 30) (some (800, 801, 58, 802)) (none)) (cond (Nat.beq k 31) (some (804, 805, 58, 806)) (none)))))) (cond (Nat.blt k 37) (cond (Nat.blt k 34) (cond (Nat.blt k 33) (cond (Nat.beq k 32) (some (808, 809, 58, 810)) (none)) (cond (Nat.beq k 33) (some (704, 705, 62, 706)) (none))) (cond (Nat.blt k 35) (cond (Nat.beq k 34) (some (716, 717, 62, 718)) (none)) (cond (Nat.blt k 36) (cond (Nat.beq k 35) (some (730, 731, 62, 732)) (none)) (cond (Nat.beq k 36) (some (727, 16, 62, 728)) (none))))) (cond (Nat.blt k 40) (cond (Nat.blt k 38) (cond (Nat.beq k 37) (some (721, 15, 62, 722)) (none)) (cond (Nat.blt k 39) (cond (Nat.beq k 38) (some (345, 346, 57, 347)) (none)) (cond (Nat.beq k 39) (some (357, 358, 57, 359)) (none)))) (cond (Nat.blt k 41) (cond (Nat.beq k 40) (some (369, 1, 57, 370)) (none)) (cond (Nat.blt k 42) (cond (Nat.beq k 41) (some (439, 4, 57, 440)) (none)) (cond (Nat.beq k 42) (some (456, 8, 57, 457)) (none)))))))) (cond (Nat.blt k 65) (cond (Nat.blt k 54) (cond (Nat.blt k 48) (cond (Nat.blt k 45) (cond (Nat.blt k 44) (cond (Nat.beq k 43) (some (443, 5, 57, 444)) (none)) (cond (Nat.beq k 44) (some (452, 7, 57, 453)) (none))) (cond (Nat.blt k 46) (cond (Nat.beq k 45) (some (362, 0, 57, 363)) (none)) (cond (Nat.blt k 47) (cond (Nat.beq k 46) (some (365, 0, 57, 366)) (none)) (cond (Nat.beq k 47) (some (447, 6, 57, 448)) (none))))) (cond (Nat.blt k 51) (cond (Nat.blt k 49) (cond (Nat.beq k 48) (some (373, 2, 57, 374)) (none)) (cond (Nat.blt k 50) (cond (Nat.beq k 49) (some (387, 3, 57, 388)) (none)) (cond (Nat.beq k 50) (some (376, 0, 57, 377)) (none)))) (cond (Nat.blt k 52) (cond (Nat.beq k 51) (some (561, 562, 61, 563)) (none)) (cond (Nat.blt k 53) (cond (Nat.beq k 52) (some (596, 597, 61, 598)) (none)) (cond (Nat.beq k 53) (some (338, 339, 56, 340)) (none)))))) (cond (Nat.blt k 59) (cond (Nat.blt k 56) (cond (Nat.blt k 55) (cond (Nat.beq k 54) (some (349, 350, 56, 351)) (none)) (cond (Nat.beq k 55) (some (353, 354, 56, 355)) (none))) (cond (Nat.blt k 57) (cond (Nat.beq k 56) (some (460, 461, 56, 462)) (none)) (cond (Nat.blt k 58) (cond (Nat.beq k 57) (some (496, 497, 56, 498)) (none)) (cond (Nat.beq k 58) (some (531, 532, 56, 533)) (none))))) (cond (Nat.blt k 62) (cond (Nat.blt k 60) (cond (Nat.beq k 59) (some (536, 537, 56, 538)) (none)) (cond (Nat.blt k 61) (cond (Nat.beq k 60) (some (545, 546, 56, 547)) (none)) (cond (Nat.beq k 61) (some (553, 554, 56, 555)) (none)))) (cond (Nat.blt k 63) (cond (Nat.beq k 62) (some (557, 558, 56, 559)) (none)) (cond (Nat.blt k 64) (cond (Nat.beq k 63) (some (579, 580, 56, 581)) (none)) (cond (Nat.beq k 64) (some (584, 585, 56, 586)) (none))))))) (cond (Nat.blt k 76) (cond (Nat.blt k 70) (cond (Nat.blt k 67) (cond (Nat.blt k 66) (cond (Nat.beq k 65) (some (592, 593, 56, 594)) (none)) (cond (Nat.beq k 66) (some (601, 602, 56, 603)) (none))) (cond (Nat.blt k 68) (cond (Nat.beq k 67) (some (605, 606, 56, 607)) (none)) (cond (Nat.blt k 69) (cond (Nat.beq k 68) (some (609, 610, 56, 611)) (none)) (cond (Nat.beq k 69) (some (617, 618, 56, 619)) (none))))) (cond (Nat.blt k 73) (cond (Nat.blt k 71) (cond (Nat.beq k 70) (some (621, 622, 56, 623)) (none)) (cond (Nat.blt k 72) (cond (Nat.beq k 71) (some (626, 627, 56, 628)) (none)) (cond (Nat.beq k 72) (some (630, 631, 56, 632)) (none)))) (cond (Nat.blt k 74) (cond (Nat.beq k 73) (some (652, 653, 56, 654)) (none)) (cond (Nat.blt k 75) (cond (Nat.beq k 74) (some (660, 661, 56, 662)) (none)) (cond (Nat.beq k 75) (some (673, 674, 56, 675)) (none)))))) (cond (Nat.blt k 81) (cond (Nat.blt k 78) (cond (Nat.blt k 77) (cond (Nat.beq k 76) (some (686, 687, 56, 688)) (none)) (cond (Nat.beq k 77) (some (700, 701, 56, 702)) (none))) (cond (Nat.blt k 79) (cond (Nat.beq k 78) (some (708, 709, 56, 710)) (none)) (cond (Nat.blt k 80) (cond (Nat.beq k 79) (some (712, 713, 56, 714)) (none)) (cond (Nat.beq k 80) (some (734, 735, 56, 736)) (none))))) (cond (Nat.blt k 84) (cond (Nat.blt k 82) (cond (Nat.beq k 81) (some (745, 746, 56, 747)) (none)) (cond (Nat.blt k 83) (cond (Nat.beq k 82) (some (756, 757, 56, 758)) (none)) (cond (Nat.beq k 83) (some (761, 762, 56, 763)) (none)))) (cond (Nat.blt k 85) (cond (Nat.beq k 84) (some (783, 784, 56, 785)) (none)) (cond (Nat.blt k 86) (cond (Nat.beq k 85) (some (792, 793, 56, 794)) (none)) (cond (Nat.beq k 86) (some (796, 797, 56, 798)) (none))))))))) (cond (Nat.blt k 131) (cond (Nat.blt k 109) (cond (Nat.blt k 98) (cond (Nat.blt k 92) (cond (Nat.blt k 89) (cond (Nat.blt k 88) (cond (Nat.beq k 87) (some (465, 9, 56, 466)) (none)) (cond (Nat.beq k 88) (some (481, 10, 56, 482)) (none))) (cond (Nat.blt k 90) (cond (Nat.beq k 89) (some (550, 11, 56, 551)) (none)) (cond (Nat.blt k 91) (cond (Nat.beq k 90) (some (813, 18, 56, 814)) (none)) (cond (Nat.beq k 91) (some (342, 0, 56, 343)) (none))))) (cond (Nat.blt k 95) (cond (Nat.blt k 93) (cond (Nat.beq k 92) (some (738, 0, 56, 739)) (none)) (cond (Nat.blt k 94) (cond (Nat.beq k 93) (some (749, 0, 56, 750)) (none)) (cond (Nat.beq k 94) (some (542, 0, 56, 543)) (none)))) (cond (Nat.blt k 96) (cond (Nat.beq k 95) (some (613, 0, 56, 614)) (none)) (cond (Nat.blt k 97) (cond (Nat.beq k 96) (some (690, 0, 56, 691)) (none)) (cond (Nat.beq k 97) (some (693, 0, 56, 694)) (none)))))) (cond (Nat.blt k 103) (cond (Nat.blt k 100) (cond (Nat.blt k 99) (cond (Nat.beq k 98) (some (696, 0, 56, 697)) (none)) (cond (Nat.beq k 99) (some (933, 0, 66, 934)) (none))) (cond (Nat.blt k 101) (cond (Nat.beq k 100) (some (928, 929, 66, 930)) (none)) (cond (Nat.blt k 102) (cond (Nat.beq k 101) (some (936, 937, 66, 938)) (none)) (cond (Nat.beq k 102) (some (952, 0, 66, 953)) (none))))) (cond (Nat.blt k 106) (cond (Nat.blt k 104) (cond (Nat.beq k 103) (some (957, 0, 66, 958)) (none)) (cond (Nat.blt k 105) (cond (Nat.beq k 104) (some (949, 20, 66, 950)) (none)) (cond (Nat.beq k 105) (some (971, 23, 66, 972)) (none)))) (cond (Nat.blt k 107) (cond (Nat.beq k 106) (some (979, 25, 66, 980)) (none)) (cond (Nat.blt k 108) (cond (Nat.beq k 107) (some (967, 22, 66, 968)) (none)) (cond (Nat.beq k 108) (some (975, 24, 66, 976)) (none))))))) (cond (Nat.blt k 120) (cond (Nat.blt k 114) (cond (Nat.blt k 111) (cond (Nat.blt k 110) (cond (Nat.beq k 109) (some (987, 27, 66, 988)) (none)) (cond (Nat.beq k 110) (some (983, 26, 66, 984)) (none))) (cond (Nat.blt k 112) (cond (Nat.beq k 111) (some (963, 21, 66, 964)) (none)) (cond (Nat.blt k 113) (cond (Nat.beq k 112) (some (945, 19, 66, 946)) (none)) (cond (Nat.beq k 113) (some (940, 941, 66, 942)) (none))))) (cond (Nat.blt k 117) (cond (Nat.blt k 115) (cond (Nat.beq k 114) (some (995, 28, 66, 996)) (none)) (cond (Nat.blt k 116) (cond (Nat.beq k 115) (some (990, 991, 66, 992)) (none)) (cond (Nat.beq k 116) (some (1003, 29, 66, 1004)) (none)))) (cond (Nat.blt k 118) (cond (Nat.beq k 117) (some (1015, 32, 66, 1016)) (none)) (cond (Nat.blt k 119) (cond (Nat.beq k 118) (some (1019, 33, 66, 1020)) (none)) (cond (Nat.beq k 119) (some (1011, 31, 66, 1012)) (none)))))) (cond (Nat.blt k 125) (cond (Nat.blt k 122) (cond (Nat.blt k 121) (cond (Nat.beq k 120) (some (1007, 30, 66, 1008)) (none)) (cond (Nat.beq k 121) (some (1022, 0, 66, 1023)) (none))) (cond (Nat.blt k 123) (cond (Nat.beq k 122) (some (1102, 0, 66, 1103)) (none)) (cond (Nat.blt k 124) (cond (Nat.beq k 123) (some (1069, 39, 66, 1070)) (none)) (cond (Nat.beq k 124) (some (1065, 38, 66, 1066)) (none))))) (cond (Nat.blt k 128) (cond (Nat.blt k 126) (cond (Nat.beq k 125) (some (1030, 35, 66, 1031)) (none)) (cond (Nat.blt k 127) (cond (Nat.beq k 126) (some (1026, 34, 66, 1027)) (none)) (cond (Nat.beq k 127) (some (998, 999, 66, 1000)) (none)))) (cond (Nat.blt k 129) (cond (Nat.beq k 128) (some (1033, 1034, 66, 1035)) (none)) (cond (Nat.blt k 130) (cond (Nat.beq k 129) (some (1038, 1039, 66, 1040)) (none)) (cond (Nat.beq k 130) (some (1048, 36, 66, 1049)) (none)))))))) (cond (Nat.blt k 153) (cond (Nat.blt k 142) (cond (Nat.blt k 136) (cond (Nat.blt k 133) (cond (Nat.blt k 132) (cond (Nat.beq k 131) (some (1043, 1044, 66, 1045)) (none)) (cond (Nat.beq k 132) (some (1051, 1052, 66, 1053)) (none))) (cond (Nat.blt k 134) (cond (Nat.beq k 133) (some (1061, 37, 66, 1062)) (none)) (cond (Nat.blt k 135) (cond (Nat.beq k 134) (some (1055, 1056, 66, 1057)) (none)) (cond (Nat.beq k 135) (some (1072, 1073, 66, 1074)) (none))))) (cond (Nat.blt k 139) (cond (Nat.blt k 137) (cond (Nat.beq k 136) (some (1077, 1078, 66, 1079)) (none)) (cond (Nat.blt k 138) (cond (Nat.beq k 137) (some (1081, 1082, 66, 1083)) (none)) (cond (Nat.beq k 138) (some (1085, 1086, 66, 1087)) (none)))) (cond (Nat.blt k 140) (cond (Nat.beq k 139) (some (1089, 1090, 66, 1091)) (none)) (cond (Nat.blt k 141) (cond (Nat.beq k 140) (some (1099, 40, 66, 1100)) (none)) (cond (Nat.beq k 141) (some (1093, 1094, 66, 1095)) (none)))))) (cond (Nat.blt k 147) (cond (Nat.blt k 144) (cond (Nat.blt k 143) (cond (Nat.beq k 142) (some (1105, 1106, 66, 1107)) (none)) (cond (Nat.beq k 143) (some (1110, 1111, 66, 1112)) (none))) (cond (Nat.blt k 145) (cond (Nat.beq k 144) (some (1114, 1115, 66, 1116)) (none)) (cond (Nat.blt k 146) (cond (Nat.beq k 145) (some (1124, 41, 66, 1125)) (none)) (cond (Nat.beq k 146) (some (1132, 43, 66, 1133)) (none))))) (cond (Nat.blt k 150) (cond (Nat.blt k 148) (cond (Nat.beq k 147) (some (1136, 44, 66, 1137)) (none)) (cond (Nat.blt k 149) (cond (Nat.beq k 148) (some (1128, 42, 66, 1129)) (none)) (cond (Nat.beq k 149) (some (1118, 1119, 66, 1120)) (none)))) (cond (Nat.blt k 151) (cond (Nat.beq k 150) (some (1144, 45, 66, 1145)) (none)) (cond (Nat.blt k 152) (cond (Nat.beq k 151) (some (1139, 1140, 66, 1141)) (none)) (cond (Nat.beq k 152) (some (1147, 1148, 66, 1149)) (none))))))) (cond (Nat.blt k 164) (cond (Nat.blt k 158) (cond (Nat.blt k 155) (cond (Nat.blt k 154) (cond (Nat.beq k 153) (some (1157, 46, 66, 1158)) (none)) (cond (Nat.beq k 154) (some (1151, 1152, 66, 1153)) (none))) (cond (Nat.blt k 156) (cond (Nat.beq k 155) (some (1160, 1161, 66, 1162)) (none)) (cond (Nat.blt k 157) (cond (Nat.beq k 156) (some (1165, 1166, 66, 1167)) (none)) (cond (Nat.beq k 157) (some (1170, 1171, 66, 1172)) (none))))) (cond (Nat.blt k 161) (cond (Nat.blt k 159) (cond (Nat.beq k 158) (some (1179, 47, 66, 1180)) (none)) (cond (Nat.blt k 160) (cond (Nat.beq k 159) (some (1174, 1175, 66, 1176)) (none)) (cond (Nat.beq k 160) (some (1186, 0, 66, 1187)) (none)))) (cond (Nat.blt k 162) (cond (Nat.beq k 161) (some (1182, 1183, 66, 1184)) (none)) (cond (Nat.blt k 163) (cond (Nat.beq k 162) (some (1198, 48, 66, 1199)) (none)) (cond (Nat.beq k 163) (some (1190, 1191, 66, 1192)) (none)))))) (cond (Nat.blt k 169) (cond (Nat.blt k 166) (cond (Nat.blt k 165) (cond (Nat.beq k 164) (some (1201, 1202, 66, 1203)) (none)) (cond (Nat.beq k 165) (some (1211, 49, 66, 1212)) (none))) (cond (Nat.blt k 167) (cond (Nat.beq k 166) (some (1206, 1207, 66, 1208)) (none)) (cond (Nat.blt k 168) (cond (Nat.beq k 167) (some (1219, 50, 66, 1220)) (none)) (cond (Nat.beq k 168) (some (1214, 1215, 66, 1216)) (none))))) (cond (Nat.blt k 172) (cond (Nat.blt k 170) (cond (Nat.beq k 169) (some (1222, 1223, 66, 1224)) (none)) (cond (Nat.blt k 171) (cond (Nat.beq k 170) (some (1231, 51, 66, 1232)) (none)) (cond (Nat.beq k 171) (some (1235, 52, 66, 1236)) (none)))) (cond (Nat.blt k 173) (cond (Nat.beq k 172) (some (1239, 53, 66, 1240)) (none)) (cond (Nat.blt k 174) (cond (Nat.beq k 173) (some (1243, 54, 66, 1244)) (none)) (cond (Nat.beq k 174) (some (1226, 1227, 66, 1228)) (none))))))))))
def gOkTab (tl : List (Int × Nat)) (lo hi : Int) (offs : Array Int) (pc : Nat) : Bool := decide (hi = lo + (tl.length : Int) - 1) && (List.range tl.length).all (fun j => match tl[j]?, offs[j]? with
  | some q, some o => decide (q.1 = lo + (j : Int)) && decide ((pc : Int) + o = (q.2 : Int)) && decide (gW q.1 = q.1)
  | _, _ => false)
def gOkLook (tl : List (Int × Nat)) (ps : List (Int × Int)) (pc : Nat) : Bool := match tl, ps with
  | [], [] => true
  | q :: tl, o :: ps => decide (q.1 = o.1) && decide ((pc : Int) + o.2 = (q.2 : Int)) && decide (gW q.1 = q.1) && gOkLook tl ps pc
  | _, _ => false
/-- an entry of a code table is what the bytes say, and what it names is in the tables -/
def gOk (own : String) (rt : Option FieldType) (cc : ByteArray) (pc : Nat) (e : gE) : Bool := match e with
  | (i, len, r1, r2, r3, r4, tl) => decide (decode cc pc = .ok (i, len)) && (match i with
    | .iconst _ | .lconst _ | .iload_n _ | .lload_n _ | .aload_n _ | .istore_n _ | .astore_n _ | .iadd | .isub | .imul | .idiv | .irem | .iand | .ior | .ixor | .ishl | .ishr | .i2l | .ladd | .lcmp | .dup | .dup2 | .pop | .iaload | .iastore | .baload | .bastore | .aaload | .arraylength => Nat.beq len 1
    | .iload _ | .lload _ | .aload _ | .istore _ | .astore _ => Nat.beq len 2
    | .iinc _ _ => Nat.beq len 3
    | .bipush n => Nat.beq len 2 && decide ((Int8.ofInt n).toInt32 = gI n)
    | .sipush n => Nat.beq len 3 && decide ((Int16.ofInt n).toInt32 = gI n)
    | .ldc idx => Nat.beq len 2 && (match r3 with
      | 0 => gWd r4 (.constant own idx (gI (r1 : Int)))
      | _ => Nat.ble 1010 r1 && decide (own = RX7) && (match gStrs[r1 - 1010]? with
        | some q => Nat.beq q.1 idx
        | none => false))
    | .ldc_w idx => Nat.beq len 3 && gWd r4 (.constant own idx (gI (r1 : Int)))
    | .ldc2_w idx => Nat.beq len 3 && gWd r4 (.constantLong own idx (gJ ((r1 : Int) - (r2 : Int))))
    | .goto off => Nat.beq len 3 && decide ((pc : Int) + off = (r1 : Int))
    | .ifCond _ off => Nat.beq len 3 && decide ((pc : Int) + off = (r1 : Int))
    | .if_icmp _ off => Nat.beq len 3 && decide ((pc : Int) + off = (r1 : Int))
    | .tableswitch dflt lo hi offs => decide ((pc : Int) + dflt = (r1 : Int)) && gOkTab tl lo hi offs pc
    | .lookupswitch dflt ps => decide ((pc : Int) + dflt = (r1 : Int)) && gOkLook tl ps.toList pc && (ps.toList.zip (ps.toList.drop 1)).all (fun (a, next) => a.1 < next.1)
    | .getfield idx => Nat.beq len 3 && (match gFw own idx r1 r2 with
      | some w => gWd r4 w
      | none => false)
    | .putfield idx => Nat.beq len 3 && (match gFw own idx r1 r2 with
      | some w => gWd r4 w
      | none => false) && (match vwCl[r1]? with
      | some q => !(q.2.1 r2).2.2.2 && (match r3 with
        | 1 => decide ((q.2.1 r2).2.2.1 = "I")
        | _ => decide ((q.2.1 r2).2.2.1 = "Z"))
      | none => false)
    | .getstatic idx => Nat.beq len 3 && (match r2 with
      | 0 => (Nat.beq r1 1002 && gWd r4 (.fieldLink own idx "GriefDoors" "FADES" "[I")) || (Nat.beq r1 1003 && gWd r4 (.fieldLink own idx "GriefDoors" "OVER" "[I"))
      | _ => Nat.beq r1 1002 && decide (Cond.fieldLinkNest own idx "GriefDoors" "FADES" "[I" "GriefDoors" ∈ gNest))
    | .invokevirtual idx => Nat.beq len 3 && (match gTab r1, gCPl r1, tl with
      | some (y, b, mL, rt), some w, [(_, wl)] => gCalVB y b mL rt w && gWd wl (.methodLink own idx y) && gArgs y r2 && (match r1 with
        | 900 => Nat.beq r3 60
        | 901 => Nat.beq r3 60
        | _ => Nat.blt r1 900 && Nat.ble 4 r3 && (match vwCl[r3 - 4]? with
          | some q => decide (q.1 = y.cls)
          | none => false))
      | _, _, _ => false)
    | .invokestatic idx => Nat.beq len 3 && (match tl with
      | [(_, wl)] => (match r3 with
        | 0 => (match gTab r1, gCPl r1 with
          | some (y, b, mL, rt), some w => gCalSB y b mL rt w && gArgs y r2 && (gWd wl (.methodLink own idx y) || decide (Cond.methodLinkNest own idx y "GriefDoors" ∈ gNest))
          | _, _ => false)
        | 1 => gWd wl (.methodLink own idx Lib.Math.max.name)
        | 2 => gWd wl (.methodLink own idx Lib.Math.min.name)
        | _ => gWd wl (.methodLink own idx arraycopyName))
      | _ => false)
    | .ireturn => Nat.beq len 1 && (match r1 with
      | 0 => decide (rt = some .int)
      | _ => decide (rt = some .boolean))
    | .areturn => Nat.beq len 1 && decide (rt = some (.object "java/lang/String"))
    | .return_ => Nat.beq len 1 && decide (rt = none)
    | _ => false)

theorem gk_X0_renew : (List.range gZ_X0_renew).all (fun pc => match gC_X0_renew pc with
  | some e => gOk gM_X0_renew.2.2.2.2.1 gM_X0_renew.2.2.2.1 gM_X0_renew.2.1 pc e
  | none => true) = true := by decide +kernel
theorem gk_X0_hasPlace : (List.range gZ_X0_hasPlace).all (fun pc => match gC_X0_hasPlace pc with
  | some e => gOk gM_X0_hasPlace.2.2.2.2.1 gM_X0_hasPlace.2.2.2.1 gM_X0_hasPlace.2.1 pc e
  | none => true) = true := by decide +kernel
theorem gk_X0_hasPlaces : (List.range gZ_X0_hasPlaces).all (fun pc => match gC_X0_hasPlaces pc with
  | some e => gOk gM_X0_hasPlaces.2.2.2.2.1 gM_X0_hasPlaces.2.2.2.1 gM_X0_hasPlaces.2.1 pc e
  | none => true) = true := by decide +kernel
theorem gk_X0_howManyThings : (List.range gZ_X0_howManyThings).all (fun pc => match gC_X0_howManyThings pc with
  | some e => gOk gM_X0_howManyThings.2.2.2.2.1 gM_X0_howManyThings.2.2.2.1 gM_X0_howManyThings.2.1 pc e
  | none => true) = true := by decide +kernel
theorem gk_X0_isOfLikeThings : (List.range gZ_X0_isOfLikeThings).all (fun pc => match gC_X0_isOfLikeThings pc with
  | some e => gOk gM_X0_isOfLikeThings.2.2.2.2.1 gM_X0_isOfLikeThings.2.2.2.1 gM_X0_isOfLikeThings.2.1 pc e
  | none => true) = true := by decide +kernel
theorem gk_X0_sort : (List.range gZ_X0_sort).all (fun pc => match gC_X0_sort pc with
  | some e => gOk gM_X0_sort.2.2.2.2.1 gM_X0_sort.2.2.2.1 gM_X0_sort.2.1 pc e
  | none => true) = true := by decide +kernel
theorem gk_X0_comesBefore : (List.range gZ_X0_comesBefore).all (fun pc => match gC_X0_comesBefore pc with
  | some e => gOk gM_X0_comesBefore.2.2.2.2.1 gM_X0_comesBefore.2.2.2.1 gM_X0_comesBefore.2.1 pc e
  | none => true) = true := by decide +kernel
theorem gk_X1_become : (List.range gZ_X1_become).all (fun pc => match gC_X1_become pc with
  | some e => gOk gM_X1_become.2.2.2.2.1 gM_X1_become.2.2.2.1 gM_X1_become.2.1 pc e
  | none => true) = true := by decide +kernel
theorem gk_X1_weight : (List.range gZ_X1_weight).all (fun pc => match gC_X1_weight pc with
  | some e => gOk gM_X1_weight.2.2.2.2.1 gM_X1_weight.2.2.2.1 gM_X1_weight.2.1 pc e
  | none => true) = true := by decide +kernel
theorem gk_X1_append : (List.range gZ_X1_append).all (fun pc => match gC_X1_append pc with
  | some e => gOk gM_X1_append.2.2.2.2.1 gM_X1_append.2.2.2.1 gM_X1_append.2.1 pc e
  | none => true) = true := by decide +kernel
theorem gk_X1_removeGreatest : (List.range gZ_X1_removeGreatest).all (fun pc => match gC_X1_removeGreatest pc with
  | some e => gOk gM_X1_removeGreatest.2.2.2.2.1 gM_X1_removeGreatest.2.2.2.1 gM_X1_removeGreatest.2.1 pc e
  | none => true) = true := by decide +kernel
theorem gk_X1_fade : (List.range gZ_X1_fade).all (fun pc => match gC_X1_fade pc with
  | some e => gOk gM_X1_fade.2.2.2.2.1 gM_X1_fade.2.2.2.1 gM_X1_fade.2.1 pc e
  | none => true) = true := by decide +kernel
theorem gk_X1_loadAs : (List.range gZ_X1_loadAs).all (fun pc => match gC_X1_loadAs pc with
  | some e => gOk gM_X1_loadAs.2.2.2.2.1 gM_X1_loadAs.2.2.2.1 gM_X1_loadAs.2.1 pc e
  | none => true) = true := by decide +kernel
theorem gk_X2_settle : (List.range gZ_X2_settle).all (fun pc => match gC_X2_settle pc with
  | some e => gOk gM_X2_settle.2.2.2.2.1 gM_X2_settle.2.2.2.1 gM_X2_settle.2.1 pc e
  | none => true) = true := by decide +kernel
theorem gk_X2_settleFrom : (List.range gZ_X2_settleFrom).all (fun pc => match gC_X2_settleFrom pc with
  | some e => gOk gM_X2_settleFrom.2.2.2.2.1 gM_X2_settleFrom.2.2.2.1 gM_X2_settleFrom.2.1 pc e
  | none => true) = true := by decide +kernel
theorem gk_X3_learn : (List.range gZ_X3_learn).all (fun pc => match gC_X3_learn pc with
  | some e => gOk gM_X3_learn.2.2.2.2.1 gM_X3_learn.2.2.2.1 gM_X3_learn.2.1 pc e
  | none => true) = true := by decide +kernel
theorem gk_X3_rank : (List.range gZ_X3_rank).all (fun pc => match gC_X3_rank pc with
  | some e => gOk gM_X3_rank.2.2.2.2.1 gM_X3_rank.2.2.2.1 gM_X3_rank.2.1 pc e
  | none => true) = true := by decide +kernel
theorem gk_X3_bestFirst : (List.range gZ_X3_bestFirst).all (fun pc => match gC_X3_bestFirst pc with
  | some e => gOk gM_X3_bestFirst.2.2.2.2.1 gM_X3_bestFirst.2.2.2.1 gM_X3_bestFirst.2.1 pc e
  | none => true) = true := by decide +kernel
theorem gk_X3_brokenFrom : (List.range gZ_X3_brokenFrom).all (fun pc => match gC_X3_brokenFrom pc with
  | some e => gOk gM_X3_brokenFrom.2.2.2.2.1 gM_X3_brokenFrom.2.2.2.1 gM_X3_brokenFrom.2.1 pc e
  | none => true) = true := by decide +kernel
theorem gk_X3_countUnbroken : (List.range gZ_X3_countUnbroken).all (fun pc => match gC_X3_countUnbroken pc with
  | some e => gOk gM_X3_countUnbroken.2.2.2.2.1 gM_X3_countUnbroken.2.2.2.1 gM_X3_countUnbroken.2.1 pc e
  | none => true) = true := by decide +kernel
theorem gk_X3_bestQuestion : (List.range gZ_X3_bestQuestion).all (fun pc => match gC_X3_bestQuestion pc with
  | some e => gOk gM_X3_bestQuestion.2.2.2.2.1 gM_X3_bestQuestion.2.2.2.1 gM_X3_bestQuestion.2.1 pc e
  | none => true) = true := by decide +kernel
theorem gk_X3_countUnbrokenWith : (List.range gZ_X3_countUnbrokenWith).all (fun pc => match gC_X3_countUnbrokenWith pc with
  | some e => gOk gM_X3_countUnbrokenWith.2.2.2.2.1 gM_X3_countUnbrokenWith.2.2.2.1 gM_X3_countUnbrokenWith.2.1 pc e
  | none => true) = true := by decide +kernel
theorem gk_X4_become : (List.range gZ_X4_become).all (fun pc => match gC_X4_become pc with
  | some e => gOk gM_X4_become.2.2.2.2.1 gM_X4_become.2.2.2.1 gM_X4_become.2.1 pc e
  | none => true) = true := by decide +kernel
theorem gk_X4_append : (List.range gZ_X4_append).all (fun pc => match gC_X4_append pc with
  | some e => gOk gM_X4_append.2.2.2.2.1 gM_X4_append.2.2.2.1 gM_X4_append.2.1 pc e
  | none => true) = true := by decide +kernel
theorem gk_X5_has : (List.range gZ_X5_has).all (fun pc => match gC_X5_has pc with
  | some e => gOk gM_X5_has.2.2.2.2.1 gM_X5_has.2.2.2.1 gM_X5_has.2.1 pc e
  | none => true) = true := by decide +kernel
theorem gk_X5_tell : (List.range gZ_X5_tell).all (fun pc => match gC_X5_tell pc with
  | some e => gOk gM_X5_tell.2.2.2.2.1 gM_X5_tell.2.2.2.1 gM_X5_tell.2.1 pc e
  | none => true) = true := by decide +kernel
theorem gk_X5_passLents : (List.range gZ_X5_passLents).all (fun pc => match gC_X5_passLents pc with
  | some e => gOk gM_X5_passLents.2.2.2.2.1 gM_X5_passLents.2.2.2.1 gM_X5_passLents.2.1 pc e
  | none => true) = true := by decide +kernel
theorem gk_X5_load : (List.range gZ_X5_load).all (fun pc => match gC_X5_load pc with
  | some e => gOk gM_X5_load.2.2.2.2.1 gM_X5_load.2.2.2.1 gM_X5_load.2.1 pc e
  | none => true) = true := by decide +kernel
theorem gk_X5_isAhead : (List.range gZ_X5_isAhead).all (fun pc => match gC_X5_isAhead pc with
  | some e => gOk gM_X5_isAhead.2.2.2.2.1 gM_X5_isAhead.2.2.2.1 gM_X5_isAhead.2.1 pc e
  | none => true) = true := by decide +kernel
theorem gk_X5_placeOf : (List.range gZ_X5_placeOf).all (fun pc => match gC_X5_placeOf pc with
  | some e => gOk gM_X5_placeOf.2.2.2.2.1 gM_X5_placeOf.2.2.2.1 gM_X5_placeOf.2.1 pc e
  | none => true) = true := by decide +kernel
theorem gk_X5_howManyGoIn : (List.range gZ_X5_howManyGoIn).all (fun pc => match gC_X5_howManyGoIn pc with
  | some e => gOk gM_X5_howManyGoIn.2.2.2.2.1 gM_X5_howManyGoIn.2.2.2.1 gM_X5_howManyGoIn.2.1 pc e
  | none => true) = true := by decide +kernel
theorem gk_X5_allLoads : (List.range gZ_X5_allLoads).all (fun pc => match gC_X5_allLoads pc with
  | some e => gOk gM_X5_allLoads.2.2.2.2.1 gM_X5_allLoads.2.2.2.1 gM_X5_allLoads.2.1 pc e
  | none => true) = true := by decide +kernel
theorem gk_X5_allGriefs : (List.range gZ_X5_allGriefs).all (fun pc => match gC_X5_allGriefs pc with
  | some e => gOk gM_X5_allGriefs.2.2.2.2.1 gM_X5_allGriefs.2.2.2.1 gM_X5_allGriefs.2.1 pc e
  | none => true) = true := by decide +kernel
theorem gk_X6_append : (List.range gZ_X6_append).all (fun pc => match gC_X6_append pc with
  | some e => gOk gM_X6_append.2.2.2.2.1 gM_X6_append.2.2.2.1 gM_X6_append.2.1 pc e
  | none => true) = true := by decide +kernel
theorem gk_X6_possibleKinds : (List.range gZ_X6_possibleKinds).all (fun pc => match gC_X6_possibleKinds pc with
  | some e => gOk gM_X6_possibleKinds.2.2.2.2.1 gM_X6_possibleKinds.2.2.2.1 gM_X6_possibleKinds.2.1 pc e
  | none => true) = true := by decide +kernel
theorem gk_X6_likeliestKind : (List.range gZ_X6_likeliestKind).all (fun pc => match gC_X6_likeliestKind pc with
  | some e => gOk gM_X6_likeliestKind.2.2.2.2.1 gM_X6_likeliestKind.2.2.2.1 gM_X6_likeliestKind.2.1 pc e
  | none => true) = true := by decide +kernel
theorem gk_X6_howManyOf : (List.range gZ_X6_howManyOf).all (fun pc => match gC_X6_howManyOf pc with
  | some e => gOk gM_X6_howManyOf.2.2.2.2.1 gM_X6_howManyOf.2.2.2.1 gM_X6_howManyOf.2.1 pc e
  | none => true) = true := by decide +kernel
theorem gk_X6_howManySo : (List.range gZ_X6_howManySo).all (fun pc => match gC_X6_howManySo pc with
  | some e => gOk gM_X6_howManySo.2.2.2.2.1 gM_X6_howManySo.2.2.2.1 gM_X6_howManySo.2.1 pc e
  | none => true) = true := by decide +kernel
theorem gk_X7_append : (List.range gZ_X7_append).all (fun pc => match gC_X7_append pc with
  | some e => gOk gM_X7_append.2.2.2.2.1 gM_X7_append.2.2.2.1 gM_X7_append.2.1 pc e
  | none => true) = true := by decide +kernel
theorem gk_X7_read : (List.range gZ_X7_read).all (fun pc => match gC_X7_read pc with
  | some e => gOk gM_X7_read.2.2.2.2.1 gM_X7_read.2.2.2.1 gM_X7_read.2.1 pc e
  | none => true) = true := by decide +kernel
theorem gk_X7_readClause : (List.range gZ_X7_readClause).all (fun pc => match gC_X7_readClause pc with
  | some e => gOk gM_X7_readClause.2.2.2.2.1 gM_X7_readClause.2.2.2.1 gM_X7_readClause.2.1 pc e
  | none => true) = true := by decide +kernel
theorem gk_X7_readHouse : (List.range gZ_X7_readHouse).all (fun pc => match gC_X7_readHouse pc with
  | some e => gOk gM_X7_readHouse.2.2.2.2.1 gM_X7_readHouse.2.2.2.1 gM_X7_readHouse.2.1 pc e
  | none => true) = true := by decide +kernel
theorem gk_X7_readOne : (List.range gZ_X7_readOne).all (fun pc => match gC_X7_readOne pc with
  | some e => gOk gM_X7_readOne.2.2.2.2.1 gM_X7_readOne.2.2.2.1 gM_X7_readOne.2.1 pc e
  | none => true) = true := by decide +kernel
theorem gk_X7_readTwo : (List.range gZ_X7_readTwo).all (fun pc => match gC_X7_readTwo pc with
  | some e => gOk gM_X7_readTwo.2.2.2.2.1 gM_X7_readTwo.2.2.2.1 gM_X7_readTwo.2.1 pc e
  | none => true) = true := by decide +kernel
theorem gk_X7_addNumber : (List.range gZ_X7_addNumber).all (fun pc => match gC_X7_addNumber pc with
  | some e => gOk gM_X7_addNumber.2.2.2.2.1 gM_X7_addNumber.2.2.2.1 gM_X7_addNumber.2.1 pc e
  | none => true) = true := by decide +kernel
theorem gk_X7_goOn : (List.range gZ_X7_goOn).all (fun pc => match gC_X7_goOn pc with
  | some e => gOk gM_X7_goOn.2.2.2.2.1 gM_X7_goOn.2.2.2.1 gM_X7_goOn.2.1 pc e
  | none => true) = true := by decide +kernel
theorem gk_X7_sortOf : (List.range gZ_X7_sortOf).all (fun pc => match gC_X7_sortOf pc with
  | some e => gOk gM_X7_sortOf.2.2.2.2.1 gM_X7_sortOf.2.2.2.1 gM_X7_sortOf.2.1 pc e
  | none => true) = true := by decide +kernel
theorem gk_X7_numberHere : (List.range gZ_X7_numberHere).all (fun pc => match gC_X7_numberHere pc with
  | some e => gOk gM_X7_numberHere.2.2.2.2.1 gM_X7_numberHere.2.2.2.1 gM_X7_numberHere.2.1 pc e
  | none => true) = true := by decide +kernel
theorem gk_X7_wordHere : (List.range gZ_X7_wordHere).all (fun pc => match gC_X7_wordHere pc with
  | some e => gOk gM_X7_wordHere.2.2.2.2.1 gM_X7_wordHere.2.2.2.1 gM_X7_wordHere.2.1 pc e
  | none => true) = true := by decide +kernel
theorem gk_X7_isSpelledHere : (List.range gZ_X7_isSpelledHere).all (fun pc => match gC_X7_isSpelledHere pc with
  | some e => gOk gM_X7_isSpelledHere.2.2.2.2.1 gM_X7_isSpelledHere.2.2.2.1 gM_X7_isSpelledHere.2.1 pc e
  | none => true) = true := by decide +kernel
theorem gk_X7_spelling : (List.range gZ_X7_spelling).all (fun pc => match gC_X7_spelling pc with
  | some e => gOk gM_X7_spelling.2.2.2.2.1 gM_X7_spelling.2.2.2.1 gM_X7_spelling.2.1 pc e
  | none => true) = true := by decide +kernel
theorem gk_X8_remember : (List.range gZ_X8_remember).all (fun pc => match gC_X8_remember pc with
  | some e => gOk gM_X8_remember.2.2.2.2.1 gM_X8_remember.2.2.2.1 gM_X8_remember.2.1 pc e
  | none => true) = true := by decide +kernel
theorem gk_X8_restore : (List.range gZ_X8_restore).all (fun pc => match gC_X8_restore pc with
  | some e => gOk gM_X8_restore.2.2.2.2.1 gM_X8_restore.2.2.2.1 gM_X8_restore.2.1 pc e
  | none => true) = true := by decide +kernel
theorem gk_X9_write : (List.range gZ_X9_write).all (fun pc => match gC_X9_write pc with
  | some e => gOk gM_X9_write.2.2.2.2.1 gM_X9_write.2.2.2.1 gM_X9_write.2.1 pc e
  | none => true) = true := by decide +kernel
theorem gk_X9_erase : (List.range gZ_X9_erase).all (fun pc => match gC_X9_erase pc with
  | some e => gOk gM_X9_erase.2.2.2.2.1 gM_X9_erase.2.2.2.1 gM_X9_erase.2.1 pc e
  | none => true) = true := by decide +kernel
theorem gk_X9_fault : (List.range gZ_X9_fault).all (fun pc => match gC_X9_fault pc with
  | some e => gOk gM_X9_fault.2.2.2.2.1 gM_X9_fault.2.2.2.1 gM_X9_fault.2.1 pc e
  | none => true) = true := by decide +kernel
theorem gk_X9_house : (List.range gZ_X9_house).all (fun pc => match gC_X9_house pc with
  | some e => gOk gM_X9_house.2.2.2.2.1 gM_X9_house.2.2.2.1 gM_X9_house.2.1 pc e
  | none => true) = true := by decide +kernel
theorem gk_X9_person : (List.range gZ_X9_person).all (fun pc => match gC_X9_person pc with
  | some e => gOk gM_X9_person.2.2.2.2.1 gM_X9_person.2.2.2.1 gM_X9_person.2.1 pc e
  | none => true) = true := by decide +kernel
theorem gk_X9_grief : (List.range gZ_X9_grief).all (fun pc => match gC_X9_grief pc with
  | some e => gOk gM_X9_grief.2.2.2.2.1 gM_X9_grief.2.2.2.1 gM_X9_grief.2.1 pc e
  | none => true) = true := by decide +kernel
theorem gk_X9_as : (List.range gZ_X9_as).all (fun pc => match gC_X9_as pc with
  | some e => gOk gM_X9_as.2.2.2.2.1 gM_X9_as.2.2.2.1 gM_X9_as.2.1 pc e
  | none => true) = true := by decide +kernel
theorem gk_X9_pair : (List.range gZ_X9_pair).all (fun pc => match gC_X9_pair pc with
  | some e => gOk gM_X9_pair.2.2.2.2.1 gM_X9_pair.2.2.2.1 gM_X9_pair.2.1 pc e
  | none => true) = true := by decide +kernel
theorem gk_X9_unpair : (List.range gZ_X9_unpair).all (fun pc => match gC_X9_unpair pc with
  | some e => gOk gM_X9_unpair.2.2.2.2.1 gM_X9_unpair.2.2.2.1 gM_X9_unpair.2.1 pc e
  | none => true) = true := by decide +kernel
theorem gk_X9_lent : (List.range gZ_X9_lent).all (fun pc => match gC_X9_lent pc with
  | some e => gOk gM_X9_lent.2.2.2.2.1 gM_X9_lent.2.2.2.1 gM_X9_lent.2.1 pc e
  | none => true) = true := by decide +kernel
theorem gk_X9_grieve : (List.range gZ_X9_grieve).all (fun pc => match gC_X9_grieve pc with
  | some e => gOk gM_X9_grieve.2.2.2.2.1 gM_X9_grieve.2.2.2.1 gM_X9_grieve.2.1 pc e
  | none => true) = true := by decide +kernel
theorem gk_X9_comfort : (List.range gZ_X9_comfort).all (fun pc => match gC_X9_comfort pc with
  | some e => gOk gM_X9_comfort.2.2.2.2.1 gM_X9_comfort.2.2.2.1 gM_X9_comfort.2.1 pc e
  | none => true) = true := by decide +kernel
theorem gk_X9_undo : (List.range gZ_X9_undo).all (fun pc => match gC_X9_undo pc with
  | some e => gOk gM_X9_undo.2.2.2.2.1 gM_X9_undo.2.2.2.1 gM_X9_undo.2.1 pc e
  | none => true) = true := by decide +kernel
theorem gk_X9_keep : (List.range gZ_X9_keep).all (fun pc => match gC_X9_keep pc with
  | some e => gOk gM_X9_keep.2.2.2.2.1 gM_X9_keep.2.2.2.1 gM_X9_keep.2.1 pc e
  | none => true) = true := by decide +kernel
theorem gk_X9_back : (List.range gZ_X9_back).all (fun pc => match gC_X9_back pc with
  | some e => gOk gM_X9_back.2.2.2.2.1 gM_X9_back.2.2.2.1 gM_X9_back.2.1 pc e
  | none => true) = true := by decide +kernel
theorem gk_X9_behind : (List.range gZ_X9_behind).all (fun pc => match gC_X9_behind pc with
  | some e => gOk gM_X9_behind.2.2.2.2.1 gM_X9_behind.2.2.2.1 gM_X9_behind.2.1 pc e
  | none => true) = true := by decide +kernel
theorem gk_X9_enters : (List.range gZ_X9_enters).all (fun pc => match gC_X9_enters pc with
  | some e => gOk gM_X9_enters.2.2.2.2.1 gM_X9_enters.2.2.2.1 gM_X9_enters.2.1 pc e
  | none => true) = true := by decide +kernel
theorem gk_X9_ahead : (List.range gZ_X9_ahead).all (fun pc => match gC_X9_ahead pc with
  | some e => gOk gM_X9_ahead.2.2.2.2.1 gM_X9_ahead.2.2.2.1 gM_X9_ahead.2.1 pc e
  | none => true) = true := by decide +kernel
theorem gk_X9_wrong : (List.range gZ_X9_wrong).all (fun pc => match gC_X9_wrong pc with
  | some e => gOk gM_X9_wrong.2.2.2.2.1 gM_X9_wrong.2.2.2.1 gM_X9_wrong.2.1 pc e
  | none => true) = true := by decide +kernel
theorem gk_X9_ranked : (List.range gZ_X9_ranked).all (fun pc => match gC_X9_ranked pc with
  | some e => gOk gM_X9_ranked.2.2.2.2.1 gM_X9_ranked.2.2.2.1 gM_X9_ranked.2.1 pc e
  | none => true) = true := by decide +kernel
theorem gk_X9_lines : (List.range gZ_X9_lines).all (fun pc => match gC_X9_lines pc with
  | some e => gOk gM_X9_lines.2.2.2.2.1 gM_X9_lines.2.2.2.1 gM_X9_lines.2.1 pc e
  | none => true) = true := by decide +kernel
theorem gk_X9_next : (List.range gZ_X9_next).all (fun pc => match gC_X9_next pc with
  | some e => gOk gM_X9_next.2.2.2.2.1 gM_X9_next.2.2.2.1 gM_X9_next.2.1 pc e
  | none => true) = true := by decide +kernel
theorem gk_X9_rooms : (List.range gZ_X9_rooms).all (fun pc => match gC_X9_rooms pc with
  | some e => gOk gM_X9_rooms.2.2.2.2.1 gM_X9_rooms.2.2.2.1 gM_X9_rooms.2.1 pc e
  | none => true) = true := by decide +kernel
theorem gk_X9_misread : (List.range gZ_X9_misread).all (fun pc => match gC_X9_misread pc with
  | some e => gOk gM_X9_misread.2.2.2.2.1 gM_X9_misread.2.2.2.1 gM_X9_misread.2.1 pc e
  | none => true) = true := by decide +kernel
theorem gk_X9_seen : (List.range gZ_X9_seen).all (fun pc => match gC_X9_seen pc with
  | some e => gOk gM_X9_seen.2.2.2.2.1 gM_X9_seen.2.2.2.1 gM_X9_seen.2.1 pc e
  | none => true) = true := by decide +kernel
theorem gk_X9_forget : (List.range gZ_X9_forget).all (fun pc => match gC_X9_forget pc with
  | some e => gOk gM_X9_forget.2.2.2.2.1 gM_X9_forget.2.2.2.1 gM_X9_forget.2.1 pc e
  | none => true) = true := by decide +kernel
theorem gk_X9_kinds : (List.range gZ_X9_kinds).all (fun pc => match gC_X9_kinds pc with
  | some e => gOk gM_X9_kinds.2.2.2.2.1 gM_X9_kinds.2.2.2.1 gM_X9_kinds.2.1 pc e
  | none => true) = true := by decide +kernel
theorem gk_X9_drawer : (List.range gZ_X9_drawer).all (fun pc => match gC_X9_drawer pc with
  | some e => gOk gM_X9_drawer.2.2.2.2.1 gM_X9_drawer.2.2.2.1 gM_X9_drawer.2.1 pc e
  | none => true) = true := by decide +kernel
theorem gk_X9_put : (List.range gZ_X9_put).all (fun pc => match gC_X9_put pc with
  | some e => gOk gM_X9_put.2.2.2.2.1 gM_X9_put.2.2.2.1 gM_X9_put.2.1 pc e
  | none => true) = true := by decide +kernel
theorem gk_X9_take : (List.range gZ_X9_take).all (fun pc => match gC_X9_take pc with
  | some e => gOk gM_X9_take.2.2.2.2.1 gM_X9_take.2.2.2.1 gM_X9_take.2.1 pc e
  | none => true) = true := by decide +kernel
theorem gk_X9_tidy : (List.range gZ_X9_tidy).all (fun pc => match gC_X9_tidy pc with
  | some e => gOk gM_X9_tidy.2.2.2.2.1 gM_X9_tidy.2.2.2.1 gM_X9_tidy.2.1 pc e
  | none => true) = true := by decide +kernel
theorem gk_X9_copy : (List.range gZ_X9_copy).all (fun pc => match gC_X9_copy pc with
  | some e => gOk gM_X9_copy.2.2.2.2.1 gM_X9_copy.2.2.2.1 gM_X9_copy.2.1 pc e
  | none => true) = true := by decide +kernel
theorem gk_X9_drop : (List.range gZ_X9_drop).all (fun pc => match gC_X9_drop pc with
  | some e => gOk gM_X9_drop.2.2.2.2.1 gM_X9_drop.2.2.2.1 gM_X9_drop.2.1 pc e
  | none => true) = true := by decide +kernel
theorem gk_X9_count : (List.range gZ_X9_count).all (fun pc => match gC_X9_count pc with
  | some e => gOk gM_X9_count.2.2.2.2.1 gM_X9_count.2.2.2.1 gM_X9_count.2.1 pc e
  | none => true) = true := by decide +kernel
theorem gk_X9_doClause : (List.range gZ_X9_doClause).all (fun pc => match gC_X9_doClause pc with
  | some e => gOk gM_X9_doClause.2.2.2.2.1 gM_X9_doClause.2.2.2.1 gM_X9_doClause.2.1 pc e
  | none => true) = true := by decide +kernel
theorem gk_X9_beginAsTold : (List.range gZ_X9_beginAsTold).all (fun pc => match gC_X9_beginAsTold pc with
  | some e => gOk gM_X9_beginAsTold.2.2.2.2.1 gM_X9_beginAsTold.2.2.2.1 gM_X9_beginAsTold.2.1 pc e
  | none => true) = true := by decide +kernel
theorem gk_X9_areTwo : (List.range gZ_X9_areTwo).all (fun pc => match gC_X9_areTwo pc with
  | some e => gOk gM_X9_areTwo.2.2.2.2.1 gM_X9_areTwo.2.2.2.1 gM_X9_areTwo.2.1 pc e
  | none => true) = true := by decide +kernel
theorem gk_X9_drawersThere : (List.range gZ_X9_drawersThere).all (fun pc => match gC_X9_drawersThere pc with
  | some e => gOk gM_X9_drawersThere.2.2.2.2.1 gM_X9_drawersThere.2.2.2.1 gM_X9_drawersThere.2.1 pc e
  | none => true) = true := by decide +kernel
theorem gk_X9_isWithin : (List.range gZ_X9_isWithin).all (fun pc => match gC_X9_isWithin pc with
  | some e => gOk gM_X9_isWithin.2.2.2.2.1 gM_X9_isWithin.2.2.2.1 gM_X9_isWithin.2.1 pc e
  | none => true) = true := by decide +kernel
theorem gk_X9_isDrawer : (List.range gZ_X9_isDrawer).all (fun pc => match gC_X9_isDrawer pc with
  | some e => gOk gM_X9_isDrawer.2.2.2.2.1 gM_X9_isDrawer.2.2.2.1 gM_X9_isDrawer.2.1 pc e
  | none => true) = true := by decide +kernel
theorem gk_X9_canBePut : (List.range gZ_X9_canBePut).all (fun pc => match gC_X9_canBePut pc with
  | some e => gOk gM_X9_canBePut.2.2.2.2.1 gM_X9_canBePut.2.2.2.1 gM_X9_canBePut.2.1 pc e
  | none => true) = true := by decide +kernel
theorem gk_X9_isSuch : (List.range gZ_X9_isSuch).all (fun pc => match gC_X9_isSuch pc with
  | some e => gOk gM_X9_isSuch.2.2.2.2.1 gM_X9_isSuch.2.2.2.1 gM_X9_isSuch.2.1 pc e
  | none => true) = true := by decide +kernel
theorem gk_X9_stepOf : (List.range gZ_X9_stepOf).all (fun pc => match gC_X9_stepOf pc with
  | some e => gOk gM_X9_stepOf.2.2.2.2.1 gM_X9_stepOf.2.2.2.1 gM_X9_stepOf.2.1 pc e
  | none => true) = true := by decide +kernel
theorem gk_X9_readingsAsGreater : (List.range gZ_X9_readingsAsGreater).all (fun pc => match gC_X9_readingsAsGreater pc with
  | some e => gOk gM_X9_readingsAsGreater.2.2.2.2.1 gM_X9_readingsAsGreater.2.2.2.1 gM_X9_readingsAsGreater.2.1 pc e
  | none => true) = true := by decide +kernel
theorem gk_X9_readingsOff : (List.range gZ_X9_readingsOff).all (fun pc => match gC_X9_readingsOff pc with
  | some e => gOk gM_X9_readingsOff.2.2.2.2.1 gM_X9_readingsOff.2.2.2.1 gM_X9_readingsOff.2.1 pc e
  | none => true) = true := by decide +kernel
theorem gk_X9_commonDivisor : (List.range gZ_X9_commonDivisor).all (fun pc => match gC_X9_commonDivisor pc with
  | some e => gOk gM_X9_commonDivisor.2.2.2.2.1 gM_X9_commonDivisor.2.2.2.1 gM_X9_commonDivisor.2.1 pc e
  | none => true) = true := by decide +kernel
theorem gk_X10_in : (List.range gZ_X10_in).all (fun pc => match gC_X10_in pc with
  | some e => gOk gM_X10_in.2.2.2.2.1 gM_X10_in.2.2.2.1 gM_X10_in.2.1 pc e
  | none => true) = true := by decide +kernel
theorem gk_X10_write : (List.range gZ_X10_write).all (fun pc => match gC_X10_write pc with
  | some e => gOk gM_X10_write.2.2.2.2.1 gM_X10_write.2.2.2.1 gM_X10_write.2.1 pc e
  | none => true) = true := by decide +kernel
theorem gk_X10_erase : (List.range gZ_X10_erase).all (fun pc => match gC_X10_erase pc with
  | some e => gOk gM_X10_erase.2.2.2.2.1 gM_X10_erase.2.2.2.1 gM_X10_erase.2.1 pc e
  | none => true) = true := by decide +kernel
theorem gk_X10_isLetter : (List.range gZ_X10_isLetter).all (fun pc => match gC_X10_isLetter pc with
  | some e => gOk gM_X10_isLetter.2.2.2.2.1 gM_X10_isLetter.2.2.2.1 gM_X10_isLetter.2.1 pc e
  | none => true) = true := by decide +kernel
theorem gk_X10_isDigit : (List.range gZ_X10_isDigit).all (fun pc => match gC_X10_isDigit pc with
  | some e => gOk gM_X10_isDigit.2.2.2.2.1 gM_X10_isDigit.2.2.2.1 gM_X10_isDigit.2.1 pc e
  | none => true) = true := by decide +kernel
theorem gk_X10_nextToken : (List.range gZ_X10_nextToken).all (fun pc => match gC_X10_nextToken pc with
  | some e => gOk gM_X10_nextToken.2.2.2.2.1 gM_X10_nextToken.2.2.2.1 gM_X10_nextToken.2.1 pc e
  | none => true) = true := by decide +kernel
theorem gk_X10_isWord : (List.range gZ_X10_isWord).all (fun pc => match gC_X10_isWord pc with
  | some e => gOk gM_X10_isWord.2.2.2.2.1 gM_X10_isWord.2.2.2.1 gM_X10_isWord.2.1 pc e
  | none => true) = true := by decide +kernel
theorem gk_X10_number : (List.range gZ_X10_number).all (fun pc => match gC_X10_number pc with
  | some e => gOk gM_X10_number.2.2.2.2.1 gM_X10_number.2.2.2.1 gM_X10_number.2.1 pc e
  | none => true) = true := by decide +kernel
theorem gk_X10_kindHere : (List.range gZ_X10_kindHere).all (fun pc => match gC_X10_kindHere pc with
  | some e => gOk gM_X10_kindHere.2.2.2.2.1 gM_X10_kindHere.2.2.2.1 gM_X10_kindHere.2.1 pc e
  | none => true) = true := by decide +kernel
theorem gk_X10_readsPerson : (List.range gZ_X10_readsPerson).all (fun pc => match gC_X10_readsPerson pc with
  | some e => gOk gM_X10_readsPerson.2.2.2.2.1 gM_X10_readsPerson.2.2.2.1 gM_X10_readsPerson.2.1 pc e
  | none => true) = true := by decide +kernel
theorem gk_X10_readsPair : (List.range gZ_X10_readsPair).all (fun pc => match gC_X10_readsPair pc with
  | some e => gOk gM_X10_readsPair.2.2.2.2.1 gM_X10_readsPair.2.2.2.1 gM_X10_readsPair.2.1 pc e
  | none => true) = true := by decide +kernel
theorem gk_X10_readsHouse : (List.range gZ_X10_readsHouse).all (fun pc => match gC_X10_readsHouse pc with
  | some e => gOk gM_X10_readsHouse.2.2.2.2.1 gM_X10_readsHouse.2.2.2.1 gM_X10_readsHouse.2.1 pc e
  | none => true) = true := by decide +kernel
theorem gk_X10_readsClause : (List.range gZ_X10_readsClause).all (fun pc => match gC_X10_readsClause pc with
  | some e => gOk gM_X10_readsClause.2.2.2.2.1 gM_X10_readsClause.2.2.2.1 gM_X10_readsClause.2.1 pc e
  | none => true) = true := by decide +kernel
theorem gk_X10_reads : (List.range gZ_X10_reads).all (fun pc => match gC_X10_reads pc with
  | some e => gOk gM_X10_reads.2.2.2.2.1 gM_X10_reads.2.2.2.1 gM_X10_reads.2.1 pc e
  | none => true) = true := by decide +kernel
theorem gk_X10_fault : (List.range gZ_X10_fault).all (fun pc => match gC_X10_fault pc with
  | some e => gOk gM_X10_fault.2.2.2.2.1 gM_X10_fault.2.2.2.1 gM_X10_fault.2.1 pc e
  | none => true) = true := by decide +kernel
theorem gk_X10_copyRow : (List.range gZ_X10_copyRow).all (fun pc => match gC_X10_copyRow pc with
  | some e => gOk gM_X10_copyRow.2.2.2.2.1 gM_X10_copyRow.2.2.2.1 gM_X10_copyRow.2.1 pc e
  | none => true) = true := by decide +kernel
theorem gk_X10_house : (List.range gZ_X10_house).all (fun pc => match gC_X10_house pc with
  | some e => gOk gM_X10_house.2.2.2.2.1 gM_X10_house.2.2.2.1 gM_X10_house.2.1 pc e
  | none => true) = true := by decide +kernel
theorem gk_X10_isPerson : (List.range gZ_X10_isPerson).all (fun pc => match gC_X10_isPerson pc with
  | some e => gOk gM_X10_isPerson.2.2.2.2.1 gM_X10_isPerson.2.2.2.1 gM_X10_isPerson.2.1 pc e
  | none => true) = true := by decide +kernel
theorem gk_X10_sumOf : (List.range gZ_X10_sumOf).all (fun pc => match gC_X10_sumOf pc with
  | some e => gOk gM_X10_sumOf.2.2.2.2.1 gM_X10_sumOf.2.2.2.1 gM_X10_sumOf.2.1 pc e
  | none => true) = true := by decide +kernel
theorem gk_X10_greatestOf : (List.range gZ_X10_greatestOf).all (fun pc => match gC_X10_greatestOf pc with
  | some e => gOk gM_X10_greatestOf.2.2.2.2.1 gM_X10_greatestOf.2.2.2.1 gM_X10_greatestOf.2.1 pc e
  | none => true) = true := by decide +kernel
theorem gk_X10_loadBy : (List.range gZ_X10_loadBy).all (fun pc => match gC_X10_loadBy pc with
  | some e => gOk gM_X10_loadBy.2.2.2.2.1 gM_X10_loadBy.2.2.2.1 gM_X10_loadBy.2.1 pc e
  | none => true) = true := by decide +kernel
theorem gk_X10_load : (List.range gZ_X10_load).all (fun pc => match gC_X10_load pc with
  | some e => gOk gM_X10_load.2.2.2.2.1 gM_X10_load.2.2.2.1 gM_X10_load.2.1 pc e
  | none => true) = true := by decide +kernel
theorem gk_X10_fades : (List.range gZ_X10_fades).all (fun pc => match gC_X10_fades pc with
  | some e => gOk gM_X10_fades.2.2.2.2.1 gM_X10_fades.2.2.2.1 gM_X10_fades.2.1 pc e
  | none => true) = true := by decide +kernel
theorem gk_X10_stepOf : (List.range gZ_X10_stepOf).all (fun pc => match gC_X10_stepOf pc with
  | some e => gOk gM_X10_stepOf.2.2.2.2.1 gM_X10_stepOf.2.2.2.1 gM_X10_stepOf.2.1 pc e
  | none => true) = true := by decide +kernel
theorem gk_X10_fade : (List.range gZ_X10_fade).all (fun pc => match gC_X10_fade pc with
  | some e => gOk gM_X10_fade.2.2.2.2.1 gM_X10_fade.2.2.2.1 gM_X10_fade.2.1 pc e
  | none => true) = true := by decide +kernel
theorem gk_X10_passes : (List.range gZ_X10_passes).all (fun pc => match gC_X10_passes pc with
  | some e => gOk gM_X10_passes.2.2.2.2.1 gM_X10_passes.2.2.2.1 gM_X10_passes.2.1 pc e
  | none => true) = true := by decide +kernel
theorem gk_X10_isAhead : (List.range gZ_X10_isAhead).all (fun pc => match gC_X10_isAhead pc with
  | some e => gOk gM_X10_isAhead.2.2.2.2.1 gM_X10_isAhead.2.2.2.1 gM_X10_isAhead.2.1 pc e
  | none => true) = true := by decide +kernel
theorem gk_X10_placeOf : (List.range gZ_X10_placeOf).all (fun pc => match gC_X10_placeOf pc with
  | some e => gOk gM_X10_placeOf.2.2.2.2.1 gM_X10_placeOf.2.2.2.1 gM_X10_placeOf.2.1 pc e
  | none => true) = true := by decide +kernel
theorem gk_X10_person : (List.range gZ_X10_person).all (fun pc => match gC_X10_person pc with
  | some e => gOk gM_X10_person.2.2.2.2.1 gM_X10_person.2.2.2.1 gM_X10_person.2.1 pc e
  | none => true) = true := by decide +kernel
theorem gk_X10_grief : (List.range gZ_X10_grief).all (fun pc => match gC_X10_grief pc with
  | some e => gOk gM_X10_grief.2.2.2.2.1 gM_X10_grief.2.2.2.1 gM_X10_grief.2.1 pc e
  | none => true) = true := by decide +kernel
theorem gk_X10_as : (List.range gZ_X10_as).all (fun pc => match gC_X10_as pc with
  | some e => gOk gM_X10_as.2.2.2.2.1 gM_X10_as.2.2.2.1 gM_X10_as.2.1 pc e
  | none => true) = true := by decide +kernel
theorem gk_X10_areTwo : (List.range gZ_X10_areTwo).all (fun pc => match gC_X10_areTwo pc with
  | some e => gOk gM_X10_areTwo.2.2.2.2.1 gM_X10_areTwo.2.2.2.1 gM_X10_areTwo.2.1 pc e
  | none => true) = true := by decide +kernel
theorem gk_X10_pair : (List.range gZ_X10_pair).all (fun pc => match gC_X10_pair pc with
  | some e => gOk gM_X10_pair.2.2.2.2.1 gM_X10_pair.2.2.2.1 gM_X10_pair.2.1 pc e
  | none => true) = true := by decide +kernel
theorem gk_X10_unpair : (List.range gZ_X10_unpair).all (fun pc => match gC_X10_unpair pc with
  | some e => gOk gM_X10_unpair.2.2.2.2.1 gM_X10_unpair.2.2.2.1 gM_X10_unpair.2.1 pc e
  | none => true) = true := by decide +kernel
theorem gk_X10_keepPast : (List.range gZ_X10_keepPast).all (fun pc => match gC_X10_keepPast pc with
  | some e => gOk gM_X10_keepPast.2.2.2.2.1 gM_X10_keepPast.2.2.2.1 gM_X10_keepPast.2.1 pc e
  | none => true) = true := by decide +kernel
theorem gk_X10_lent : (List.range gZ_X10_lent).all (fun pc => match gC_X10_lent pc with
  | some e => gOk gM_X10_lent.2.2.2.2.1 gM_X10_lent.2.2.2.1 gM_X10_lent.2.1 pc e
  | none => true) = true := by decide +kernel
theorem gk_X10_grieve : (List.range gZ_X10_grieve).all (fun pc => match gC_X10_grieve pc with
  | some e => gOk gM_X10_grieve.2.2.2.2.1 gM_X10_grieve.2.2.2.1 gM_X10_grieve.2.1 pc e
  | none => true) = true := by decide +kernel
theorem gk_X10_comfort : (List.range gZ_X10_comfort).all (fun pc => match gC_X10_comfort pc with
  | some e => gOk gM_X10_comfort.2.2.2.2.1 gM_X10_comfort.2.2.2.1 gM_X10_comfort.2.1 pc e
  | none => true) = true := by decide +kernel
theorem gk_X10_undo : (List.range gZ_X10_undo).all (fun pc => match gC_X10_undo pc with
  | some e => gOk gM_X10_undo.2.2.2.2.1 gM_X10_undo.2.2.2.1 gM_X10_undo.2.1 pc e
  | none => true) = true := by decide +kernel
theorem gk_X10_keep : (List.range gZ_X10_keep).all (fun pc => match gC_X10_keep pc with
  | some e => gOk gM_X10_keep.2.2.2.2.1 gM_X10_keep.2.2.2.1 gM_X10_keep.2.1 pc e
  | none => true) = true := by decide +kernel
theorem gk_X10_back : (List.range gZ_X10_back).all (fun pc => match gC_X10_back pc with
  | some e => gOk gM_X10_back.2.2.2.2.1 gM_X10_back.2.2.2.1 gM_X10_back.2.1 pc e
  | none => true) = true := by decide +kernel
theorem gk_X10_layTried : (List.range gZ_X10_layTried).all (fun pc => match gC_X10_layTried pc with
  | some e => gOk gM_X10_layTried.2.2.2.2.1 gM_X10_layTried.2.2.2.1 gM_X10_layTried.2.1 pc e
  | none => true) = true := by decide +kernel
theorem gk_X10_behind : (List.range gZ_X10_behind).all (fun pc => match gC_X10_behind pc with
  | some e => gOk gM_X10_behind.2.2.2.2.1 gM_X10_behind.2.2.2.1 gM_X10_behind.2.1 pc e
  | none => true) = true := by decide +kernel
theorem gk_X10_enters : (List.range gZ_X10_enters).all (fun pc => match gC_X10_enters pc with
  | some e => gOk gM_X10_enters.2.2.2.2.1 gM_X10_enters.2.2.2.1 gM_X10_enters.2.1 pc e
  | none => true) = true := by decide +kernel
theorem gk_X10_ahead : (List.range gZ_X10_ahead).all (fun pc => match gC_X10_ahead pc with
  | some e => gOk gM_X10_ahead.2.2.2.2.1 gM_X10_ahead.2.2.2.1 gM_X10_ahead.2.1 pc e
  | none => true) = true := by decide +kernel
theorem gk_X10_wrong : (List.range gZ_X10_wrong).all (fun pc => match gC_X10_wrong pc with
  | some e => gOk gM_X10_wrong.2.2.2.2.1 gM_X10_wrong.2.2.2.1 gM_X10_wrong.2.1 pc e
  | none => true) = true := by decide +kernel
theorem gk_X10_layOrder : (List.range gZ_X10_layOrder).all (fun pc => match gC_X10_layOrder pc with
  | some e => gOk gM_X10_layOrder.2.2.2.2.1 gM_X10_layOrder.2.2.2.1 gM_X10_layOrder.2.1 pc e
  | none => true) = true := by decide +kernel
theorem gk_X10_nextOrder : (List.range gZ_X10_nextOrder).all (fun pc => match gC_X10_nextOrder pc with
  | some e => gOk gM_X10_nextOrder.2.2.2.2.1 gM_X10_nextOrder.2.2.2.1 gM_X10_nextOrder.2.1 pc e
  | none => true) = true := by decide +kernel
theorem gk_X10_change : (List.range gZ_X10_change).all (fun pc => match gC_X10_change pc with
  | some e => gOk gM_X10_change.2.2.2.2.1 gM_X10_change.2.2.2.1 gM_X10_change.2.1 pc e
  | none => true) = true := by decide +kernel
theorem gk_X10_broken : (List.range gZ_X10_broken).all (fun pc => match gC_X10_broken pc with
  | some e => gOk gM_X10_broken.2.2.2.2.1 gM_X10_broken.2.2.2.1 gM_X10_broken.2.1 pc e
  | none => true) = true := by decide +kernel
theorem gk_X10_ranked : (List.range gZ_X10_ranked).all (fun pc => match gC_X10_ranked pc with
  | some e => gOk gM_X10_ranked.2.2.2.2.1 gM_X10_ranked.2.2.2.1 gM_X10_ranked.2.1 pc e
  | none => true) = true := by decide +kernel
theorem gk_X10_countLines : (List.range gZ_X10_countLines).all (fun pc => match gC_X10_countLines pc with
  | some e => gOk gM_X10_countLines.2.2.2.2.1 gM_X10_countLines.2.2.2.1 gM_X10_countLines.2.1 pc e
  | none => true) = true := by decide +kernel
theorem gk_X10_lines : (List.range gZ_X10_lines).all (fun pc => match gC_X10_lines pc with
  | some e => gOk gM_X10_lines.2.2.2.2.1 gM_X10_lines.2.2.2.1 gM_X10_lines.2.1 pc e
  | none => true) = true := by decide +kernel
theorem gk_X10_next : (List.range gZ_X10_next).all (fun pc => match gC_X10_next pc with
  | some e => gOk gM_X10_next.2.2.2.2.1 gM_X10_next.2.2.2.1 gM_X10_next.2.1 pc e
  | none => true) = true := by decide +kernel
theorem gk_X10_fits : (List.range gZ_X10_fits).all (fun pc => match gC_X10_fits pc with
  | some e => gOk gM_X10_fits.2.2.2.2.1 gM_X10_fits.2.2.2.1 gM_X10_fits.2.1 pc e
  | none => true) = true := by decide +kernel
theorem gk_X10_rooms : (List.range gZ_X10_rooms).all (fun pc => match gC_X10_rooms pc with
  | some e => gOk gM_X10_rooms.2.2.2.2.1 gM_X10_rooms.2.2.2.1 gM_X10_rooms.2.1 pc e
  | none => true) = true := by decide +kernel
theorem gk_X10_misread : (List.range gZ_X10_misread).all (fun pc => match gC_X10_misread pc with
  | some e => gOk gM_X10_misread.2.2.2.2.1 gM_X10_misread.2.2.2.1 gM_X10_misread.2.1 pc e
  | none => true) = true := by decide +kernel
theorem gk_X10_seen : (List.range gZ_X10_seen).all (fun pc => match gC_X10_seen pc with
  | some e => gOk gM_X10_seen.2.2.2.2.1 gM_X10_seen.2.2.2.1 gM_X10_seen.2.1 pc e
  | none => true) = true := by decide +kernel
theorem gk_X10_forget : (List.range gZ_X10_forget).all (fun pc => match gC_X10_forget pc with
  | some e => gOk gM_X10_forget.2.2.2.2.1 gM_X10_forget.2.2.2.1 gM_X10_forget.2.1 pc e
  | none => true) = true := by decide +kernel
theorem gk_X10_stepBy : (List.range gZ_X10_stepBy).all (fun pc => match gC_X10_stepBy pc with
  | some e => gOk gM_X10_stepBy.2.2.2.2.1 gM_X10_stepBy.2.2.2.1 gM_X10_stepBy.2.1 pc e
  | none => true) = true := by decide +kernel
theorem gk_X10_kinds : (List.range gZ_X10_kinds).all (fun pc => match gC_X10_kinds pc with
  | some e => gOk gM_X10_kinds.2.2.2.2.1 gM_X10_kinds.2.2.2.1 gM_X10_kinds.2.1 pc e
  | none => true) = true := by decide +kernel
theorem gk_X10_isDrawer : (List.range gZ_X10_isDrawer).all (fun pc => match gC_X10_isDrawer pc with
  | some e => gOk gM_X10_isDrawer.2.2.2.2.1 gM_X10_isDrawer.2.2.2.1 gM_X10_isDrawer.2.1 pc e
  | none => true) = true := by decide +kernel
theorem gk_X10_drawer : (List.range gZ_X10_drawer).all (fun pc => match gC_X10_drawer pc with
  | some e => gOk gM_X10_drawer.2.2.2.2.1 gM_X10_drawer.2.2.2.1 gM_X10_drawer.2.1 pc e
  | none => true) = true := by decide +kernel
theorem gk_X10_noPlace : (List.range gZ_X10_noPlace).all (fun pc => match gC_X10_noPlace pc with
  | some e => gOk gM_X10_noPlace.2.2.2.2.1 gM_X10_noPlace.2.2.2.1 gM_X10_noPlace.2.1 pc e
  | none => true) = true := by decide +kernel
theorem gk_X10_put : (List.range gZ_X10_put).all (fun pc => match gC_X10_put pc with
  | some e => gOk gM_X10_put.2.2.2.2.1 gM_X10_put.2.2.2.1 gM_X10_put.2.1 pc e
  | none => true) = true := by decide +kernel
theorem gk_X10_take : (List.range gZ_X10_take).all (fun pc => match gC_X10_take pc with
  | some e => gOk gM_X10_take.2.2.2.2.1 gM_X10_take.2.2.2.1 gM_X10_take.2.1 pc e
  | none => true) = true := by decide +kernel
theorem gk_X10_isBehind : (List.range gZ_X10_isBehind).all (fun pc => match gC_X10_isBehind pc with
  | some e => gOk gM_X10_isBehind.2.2.2.2.1 gM_X10_isBehind.2.2.2.1 gM_X10_isBehind.2.1 pc e
  | none => true) = true := by decide +kernel
theorem gk_X10_tidy : (List.range gZ_X10_tidy).all (fun pc => match gC_X10_tidy pc with
  | some e => gOk gM_X10_tidy.2.2.2.2.1 gM_X10_tidy.2.2.2.1 gM_X10_tidy.2.1 pc e
  | none => true) = true := by decide +kernel
theorem gk_X10_isSpan : (List.range gZ_X10_isSpan).all (fun pc => match gC_X10_isSpan pc with
  | some e => gOk gM_X10_isSpan.2.2.2.2.1 gM_X10_isSpan.2.2.2.1 gM_X10_isSpan.2.1 pc e
  | none => true) = true := by decide +kernel
theorem gk_X10_copy : (List.range gZ_X10_copy).all (fun pc => match gC_X10_copy pc with
  | some e => gOk gM_X10_copy.2.2.2.2.1 gM_X10_copy.2.2.2.1 gM_X10_copy.2.1 pc e
  | none => true) = true := by decide +kernel
theorem gk_X10_drop : (List.range gZ_X10_drop).all (fun pc => match gC_X10_drop pc with
  | some e => gOk gM_X10_drop.2.2.2.2.1 gM_X10_drop.2.2.2.1 gM_X10_drop.2.1 pc e
  | none => true) = true := by decide +kernel
theorem gk_X10_goIn : (List.range gZ_X10_goIn).all (fun pc => match gC_X10_goIn pc with
  | some e => gOk gM_X10_goIn.2.2.2.2.1 gM_X10_goIn.2.2.2.1 gM_X10_goIn.2.1 pc e
  | none => true) = true := by decide +kernel
theorem gk_X10_allLoads : (List.range gZ_X10_allLoads).all (fun pc => match gC_X10_allLoads pc with
  | some e => gOk gM_X10_allLoads.2.2.2.2.1 gM_X10_allLoads.2.2.2.1 gM_X10_allLoads.2.1 pc e
  | none => true) = true := by decide +kernel
theorem gk_X10_allGriefs : (List.range gZ_X10_allGriefs).all (fun pc => match gC_X10_allGriefs pc with
  | some e => gOk gM_X10_allGriefs.2.2.2.2.1 gM_X10_allGriefs.2.2.2.1 gM_X10_allGriefs.2.1 pc e
  | none => true) = true := by decide +kernel
theorem gk_X10_drawersThere : (List.range gZ_X10_drawersThere).all (fun pc => match gC_X10_drawersThere pc with
  | some e => gOk gM_X10_drawersThere.2.2.2.2.1 gM_X10_drawersThere.2.2.2.1 gM_X10_drawersThere.2.1 pc e
  | none => true) = true := by decide +kernel
theorem gk_X10_count : (List.range gZ_X10_count).all (fun pc => match gC_X10_count pc with
  | some e => gOk gM_X10_count.2.2.2.2.1 gM_X10_count.2.2.2.1 gM_X10_count.2.1 pc e
  | none => true) = true := by decide +kernel
