-- 21: the law's table is checked, by pieces
def gKL (pc : Nat) : Bool := match gC_L_law pc with
  | some e => gOk RL (some .boolean) cL_law pc e
  | none => true
theorem gkl_0 : (List.range' 0 36).all gKL = true := by decide +kernel
theorem gkl_1 : (List.range' 36 36).all gKL = true := by decide +kernel
theorem gkl_2 : (List.range' 72 36).all gKL = true := by decide +kernel
theorem gkl_3 : (List.range' 108 36).all gKL = true := by decide +kernel
theorem gkl_4 : (List.range' 144 36).all gKL = true := by decide +kernel
theorem gkl_5 : (List.range' 180 36).all gKL = true := by decide +kernel
theorem gkl_6 : (List.range' 216 36).all gKL = true := by decide +kernel
theorem gkl_7 : (List.range' 252 36).all gKL = true := by decide +kernel
theorem gkl_8 : (List.range' 288 36).all gKL = true := by decide +kernel
theorem gkl_9 : (List.range' 324 36).all gKL = true := by decide +kernel
theorem gkl_10 : (List.range' 360 36).all gKL = true := by decide +kernel
theorem gkl_11 : (List.range' 396 36).all gKL = true := by decide +kernel
theorem gkl_12 : (List.range' 432 36).all gKL = true := by decide +kernel
theorem gkl_13 : (List.range' 468 36).all gKL = true := by decide +kernel
theorem gkl_14 : (List.range' 504 36).all gKL = true := by decide +kernel
theorem gkl_15 : (List.range' 540 36).all gKL = true := by decide +kernel
theorem gkl_16 : (List.range' 576 36).all gKL = true := by decide +kernel
theorem gkl_17 : (List.range' 612 36).all gKL = true := by decide +kernel
theorem gkl_18 : (List.range' 648 36).all gKL = true := by decide +kernel
theorem gkl_19 : (List.range' 684 36).all gKL = true := by decide +kernel
theorem gkl_20 : (List.range' 720 36).all gKL = true := by decide +kernel
theorem gkl_21 : (List.range' 756 36).all gKL = true := by decide +kernel
theorem gkl_22 : (List.range' 792 36).all gKL = true := by decide +kernel
theorem gkl_23 : (List.range' 828 36).all gKL = true := by decide +kernel
theorem gkl_24 : (List.range' 864 36).all gKL = true := by decide +kernel
theorem gkl_25 : (List.range' 900 36).all gKL = true := by decide +kernel
theorem gkl_26 : (List.range' 936 36).all gKL = true := by decide +kernel
theorem gkl_27 : (List.range' 972 36).all gKL = true := by decide +kernel
theorem gkl_28 : (List.range' 1008 36).all gKL = true := by decide +kernel
theorem gkl_29 : (List.range' 1044 36).all gKL = true := by decide +kernel
theorem gkl_30 : (List.range' 1080 36).all gKL = true := by decide +kernel
theorem gkl_31 : (List.range' 1116 36).all gKL = true := by decide +kernel
theorem gkl (pc : Nat) (e : gE) (h : gC_L_law pc = some e) : gOk RL (some .boolean) cL_law pc e = true := by
  have hz : pc < 1144 := by
    unfold gC_L_law at h
    cases hb : Nat.blt pc 1144 with
    | true => exact Nat.blt_eq.mp hb
    | false => rw [hb] at h; cases h
  have key : gKL pc = true := by
    by_cases h0 : pc < 36
    · exact List.all_eq_true.mp gkl_0 pc (List.mem_range'_1.mpr ⟨by omega, by omega⟩)
    by_cases h1 : pc < 72
    · exact List.all_eq_true.mp gkl_1 pc (List.mem_range'_1.mpr ⟨by omega, by omega⟩)
    by_cases h2 : pc < 108
    · exact List.all_eq_true.mp gkl_2 pc (List.mem_range'_1.mpr ⟨by omega, by omega⟩)
    by_cases h3 : pc < 144
    · exact List.all_eq_true.mp gkl_3 pc (List.mem_range'_1.mpr ⟨by omega, by omega⟩)
    by_cases h4 : pc < 180
    · exact List.all_eq_true.mp gkl_4 pc (List.mem_range'_1.mpr ⟨by omega, by omega⟩)
    by_cases h5 : pc < 216
    · exact List.all_eq_true.mp gkl_5 pc (List.mem_range'_1.mpr ⟨by omega, by omega⟩)
    by_cases h6 : pc < 252
    · exact List.all_eq_true.mp gkl_6 pc (List.mem_range'_1.mpr ⟨by omega, by omega⟩)
    by_cases h7 : pc < 288
    · exact List.all_eq_true.mp gkl_7 pc (List.mem_range'_1.mpr ⟨by omega, by omega⟩)
    by_cases h8 : pc < 324
    · exact List.all_eq_true.mp gkl_8 pc (List.mem_range'_1.mpr ⟨by omega, by omega⟩)
    by_cases h9 : pc < 360
    · exact List.all_eq_true.mp gkl_9 pc (List.mem_range'_1.mpr ⟨by omega, by omega⟩)
    by_cases h10 : pc < 396
    · exact List.all_eq_true.mp gkl_10 pc (List.mem_range'_1.mpr ⟨by omega, by omega⟩)
    by_cases h11 : pc < 432
    · exact List.all_eq_true.mp gkl_11 pc (List.mem_range'_1.mpr ⟨by omega, by omega⟩)
    by_cases h12 : pc < 468
    · exact List.all_eq_true.mp gkl_12 pc (List.mem_range'_1.mpr ⟨by omega, by omega⟩)
    by_cases h13 : pc < 504
    · exact List.all_eq_true.mp gkl_13 pc (List.mem_range'_1.mpr ⟨by omega, by omega⟩)
    by_cases h14 : pc < 540
    · exact List.all_eq_true.mp gkl_14 pc (List.mem_range'_1.mpr ⟨by omega, by omega⟩)
    by_cases h15 : pc < 576
    · exact List.all_eq_true.mp gkl_15 pc (List.mem_range'_1.mpr ⟨by omega, by omega⟩)
    by_cases h16 : pc < 612
    · exact List.all_eq_true.mp gkl_16 pc (List.mem_range'_1.mpr ⟨by omega, by omega⟩)
    by_cases h17 : pc < 648
    · exact List.all_eq_true.mp gkl_17 pc (List.mem_range'_1.mpr ⟨by omega, by omega⟩)
    by_cases h18 : pc < 684
    · exact List.all_eq_true.mp gkl_18 pc (List.mem_range'_1.mpr ⟨by omega, by omega⟩)
    by_cases h19 : pc < 720
    · exact List.all_eq_true.mp gkl_19 pc (List.mem_range'_1.mpr ⟨by omega, by omega⟩)
    by_cases h20 : pc < 756
    · exact List.all_eq_true.mp gkl_20 pc (List.mem_range'_1.mpr ⟨by omega, by omega⟩)
    by_cases h21 : pc < 792
    · exact List.all_eq_true.mp gkl_21 pc (List.mem_range'_1.mpr ⟨by omega, by omega⟩)
    by_cases h22 : pc < 828
    · exact List.all_eq_true.mp gkl_22 pc (List.mem_range'_1.mpr ⟨by omega, by omega⟩)
    by_cases h23 : pc < 864
    · exact List.all_eq_true.mp gkl_23 pc (List.mem_range'_1.mpr ⟨by omega, by omega⟩)
    by_cases h24 : pc < 900
    · exact List.all_eq_true.mp gkl_24 pc (List.mem_range'_1.mpr ⟨by omega, by omega⟩)
    by_cases h25 : pc < 936
    · exact List.all_eq_true.mp gkl_25 pc (List.mem_range'_1.mpr ⟨by omega, by omega⟩)
    by_cases h26 : pc < 972
    · exact List.all_eq_true.mp gkl_26 pc (List.mem_range'_1.mpr ⟨by omega, by omega⟩)
    by_cases h27 : pc < 1008
    · exact List.all_eq_true.mp gkl_27 pc (List.mem_range'_1.mpr ⟨by omega, by omega⟩)
    by_cases h28 : pc < 1044
    · exact List.all_eq_true.mp gkl_28 pc (List.mem_range'_1.mpr ⟨by omega, by omega⟩)
    by_cases h29 : pc < 1080
    · exact List.all_eq_true.mp gkl_29 pc (List.mem_range'_1.mpr ⟨by omega, by omega⟩)
    by_cases h30 : pc < 1116
    · exact List.all_eq_true.mp gkl_30 pc (List.mem_range'_1.mpr ⟨by omega, by omega⟩)
    by_cases h31 : pc < 1152
    · exact List.all_eq_true.mp gkl_31 pc (List.mem_range'_1.mpr ⟨by omega, by omega⟩)
    · omega
  unfold gKL at key
  rw [h] at key
  exact key
