-- 17: the start: what the tables give, the two objects, the store behind their constructors
theorem gTy_of {s : State} {args : Array Value} {D : va_G} (hts : ∀ w ∈ lw_tbl, w.before args s = true) (hK : ∀ (c : Nat) (q : vw_C), vwCl[c]? = some q → u_Kn s q.1 q.2.1 q.2.2 (D.1 c) (D.2 c)) (hO1 : va_AO RX1 s) (hO0 : va_AO RX0 s) : ∃ cA : Nat → ClassId, va_K D vwCl (gTy cA) s := by
  have hI := hts (.arrayClass .int) (by decide +kernel)
  have hZ := hts (.arrayClass .boolean) (by decide +kernel)
  obtain ⟨c0, k0, m0, a1, a2, a3⟩ := Cond.arrayClass_spec (first := s) (o := none) (idx := []) hI
  obtain ⟨c1, k1, m1, b1, b2, b3⟩ := Cond.arrayClass_spec (first := s) (o := none) (idx := []) hZ
  obtain ⟨m2, c2, k2, d1, d2, d3, d4, d5⟩ := Cond.arrayOver_spec (first := s) (o := none) (idx := []) hO1
  obtain ⟨m3, c3, k3, e1, e2, e3, e4, e5⟩ := Cond.arrayOver_spec (first := s) (o := none) (idx := []) hO0
  refine ⟨fun t => match t with | 0 => c0 | 1 => c1 | 2 => c2 | _ => c3, hK, fun k q hq => ?_⟩
  match k, hq with
  | 0, hq => cases hq; exact ⟨fun n z => ⟨(fun q h => by cases h), k0, a2, m0, a3⟩, a1⟩
  | 1, hq => cases hq; exact ⟨fun n z => ⟨(fun q h => by cases h), k1, b2, m1, b3⟩, b1⟩
  | 2, hq => cases hq; exact ⟨fun n z => ⟨(fun q h => by cases h), k2, d3, m2, d4⟩, k2, m2, d3, d4, d1, d5⟩
  | 3, hq => cases hq; exact ⟨fun n z => ⟨(fun q h => by cases h), k3, e3, m3, e4⟩, k3, m3, e3, e4, e1, e5⟩
  | k + 4, hq => exact absurd hq (by simp [gTy])
theorem gCls_of {s : State} {args : Array Value} (hts : ∀ w ∈ lw_tbl, w.before args s = true) : ∃ D : va_G, ∀ (c : Nat) (q : vw_C), vwCl[c]? = some q → u_Kn s q.1 q.2.1 q.2.2 (D.1 c) (D.2 c) := by
  have hin : ∀ (c : Nat) (q : vw_C), vwCl[c]? = some q → ∀ w ∈ u_ws q.1 q.2.1 q.2.2, w ∈ lw_tbl := fun c q h w hw => (List.mem_filter.mp (gCls_in c q h w hw)).1
  obtain ⟨c0, i0, h0⟩ := u_known (C := RX0) (T := TX0) (N := 4) (n := 4) hts (hin 0 _ rfl) (hts (.instantiable RX0 4) (by decide +kernel))
  obtain ⟨c1, i1, h1⟩ := u_known (C := RX1) (T := TX1) (N := 3) (n := 3) hts (hin 1 _ rfl) (hts (.instantiable RX1 3) (by decide +kernel))
  obtain ⟨c2, i2, h2⟩ := u_known (C := RX2) (T := TX2) (N := 3) (n := 3) hts (hin 2 _ rfl) (hts (.instantiable RX2 3) (by decide +kernel))
  obtain ⟨c3, i3, h3⟩ := u_known (C := RX3) (T := TX3) (N := 6) (n := 6) hts (hin 3 _ rfl) (hts (.instantiable RX3 6) (by decide +kernel))
  obtain ⟨c4, i4, h4⟩ := u_known (C := RX4) (T := TX4) (N := 3) (n := 3) hts (hin 4 _ rfl) (hts (.instantiable RX4 3) (by decide +kernel))
  obtain ⟨c5, i5, h5⟩ := u_known (C := RX5) (T := TX5) (N := 4) (n := 4) hts (hin 5 _ rfl) (hts (.instantiable RX5 4) (by decide +kernel))
  obtain ⟨c6, i6, h6⟩ := u_known (C := RX6) (T := TX6) (N := 4) (n := 4) hts (hin 6 _ rfl) (hts (.instantiable RX6 4) (by decide +kernel))
  obtain ⟨c7, i7, h7⟩ := u_known (C := RX7) (T := TX7) (N := 11) (n := 11) hts (hin 7 _ rfl) (hts (.instantiable RX7 11) (by decide +kernel))
  obtain ⟨c8, i8, h8⟩ := u_known (C := RX8) (T := TX8) (N := 3) (n := 3) hts (hin 8 _ rfl) (hts (.instantiable RX8 3) (by decide +kernel))
  obtain ⟨c9, i9, h9⟩ := u_known (C := RX9) (T := TX9) (N := 11) (n := 11) hts (hin 9 _ rfl) (hts (.instantiable RX9 11) (by decide +kernel))
  obtain ⟨c10, i10, h10⟩ := u_known (C := RX10) (T := TX10) (N := 35) (n := 35) hts (hin 10 _ rfl) (hts (.instantiable RX10 35) (by decide +kernel))
  refine ⟨(fun c => match c with | 0 => c0 | 1 => c1 | 2 => c2 | 3 => c3 | 4 => c4 | 5 => c5 | 6 => c6 | 7 => c7 | 8 => c8 | 9 => c9 | _ => c10, fun c => match c with | 0 => i0 | 1 => i1 | 2 => i2 | 3 => i3 | 4 => i4 | 5 => i5 | 6 => i6 | 7 => i7 | 8 => i8 | 9 => i9 | _ => i10), ?_⟩
  intro c q h
  match c, h with
  | 0, h => cases h; exact h0
  | 1, h => cases h; exact h1
  | 2, h => cases h; exact h2
  | 3, h => cases h; exact h3
  | 4, h => cases h; exact h4
  | 5, h => cases h; exact h5
  | 6, h => cases h; exact h6
  | 7, h => cases h; exact h7
  | 8, h => cases h; exact h8
  | 9, h => cases h; exact h9
  | 10, h => cases h; exact h10
  | c + 11, h => exact absurd h (by simp [vwCl])
def gTm (i : Nat) : Term := .string RX7 (gStrs.getD i (0, "")).1
/-- the launch's own facts -/
def gNar : Cond := Jvm.Cond.and given_1 narrow_1
theorem gN_str : (∀ i, i < 7 → Cond.exactly (gTm i) "java/lang/String" ∈ flatC gNar) ∧ (∀ i, i < 7 → Cond.eq (.field (gTm i) "java/lang/String" "coder" "B") (.int 0) ∈ flatC gNar) ∧ (∀ i, i < 7 → Cond.arrayOf (.field (gTm i) "java/lang/String" "value" "[B") .byte ∈ flatC gNar) ∧ (∀ i, i < 7 → Cond.eq (.length (.field (gTm i) "java/lang/String" "value" "[B")) (.int (Int32.ofNat (gLens.getD i 0))) ∈ flatC gNar) := by
  refine ⟨?_, ?_, ?_, ?_⟩ <;> decide +kernel
theorem gN_el : ∀ i, i < 7 → ∀ j, j < gLens.getD i 0 → Cond.eq (.elem (.field (gTm i) "java/lang/String" "value" "[B") (.int (Int32.ofNat j))) (.int ((gByts.getD i []).getD j 0)) ∈ flatC gNar := by decide +kernel
theorem gN_ne : ∀ i, i < 7 → ∀ j, j < 7 → i ≠ j → (Cond.not (Cond.eq (gTm i) (gTm j)) ∈ flatC gNar ∨ Cond.not (Cond.eq (gTm j) (gTm i)) ∈ flatC gNar) := by decide +kernel
theorem gN_ref : (∀ j, j < 7 → Cond.stringRef RX7 (gStrs.getD j (0, "")).1 (gStrs.getD j (0, "")).2 ∈ lw_tbl) := by decide +kernel
theorem gN_fad : Cond.arrayOf (.static "GriefDoors" "FADES" "[I") .int ∈ flatC gNar ∧ Cond.eq (.length (.static "GriefDoors" "FADES" "[I")) (.int 5) ∈ flatC gNar ∧ Cond.arrayOf (.static "GriefDoors" "OVER" "[I") .int ∈ flatC gNar ∧ Cond.eq (.length (.static "GriefDoors" "OVER" "[I")) (.int 6) ∈ flatC gNar ∧ Cond.eq (.static "java/lang/String" "COMPACT_STRINGS" "Z") (.int 1) ∈ flatC gNar ∧ Cond.isRef (.static "jdk/internal/util/Preconditions" "SIOOBE_FORMATTER" "Ljava/util/function/BiFunction;") ∈ flatC gNar := by
  refine ⟨?_, ?_, ?_, ?_, ?_, ?_⟩ <;> decide +kernel
theorem gN_fade : (∀ j, j < 5 → Cond.eq (.elem (.static "GriefDoors" "FADES" "[I") (.int (Int32.ofNat j))) (.int (gI (gTb 1002 j))) ∈ flatC gNar) ∧ (∀ j, j < 6 → Cond.eq (.elem (.static "GriefDoors" "OVER" "[I") (.int (Int32.ofNat j))) (.int (gI (gTb 1003 j))) ∈ flatC gNar) := by
  refine ⟨?_, ?_⟩ <;> decide +kernel
theorem gN_tab : Cond.laysStatic "GriefDoors" "FADES" "[I" ∈ lw_tbl ∧ Cond.laysStatic "GriefDoors" "OVER" "[I" ∈ lw_tbl ∧ Cond.laysStatic "java/lang/String" "COMPACT_STRINGS" "Z" ∈ lw_tbl ∧ Cond.laysStatic "jdk/internal/util/Preconditions" "SIOOBE_FORMATTER" "Ljava/util/function/BiFunction;" ∈ lw_tbl ∧ Cond.initialized "GriefDoors" ∈ lw_tbl ∧ Cond.initialized "java/lang/String" ∈ lw_tbl ∧ Cond.initialized "jdk/internal/util/Preconditions" ∈ lw_tbl ∧ (∀ w ∈ gNest, w ∈ lw_tbl) ∧ Cond.arrayOver (.object RX1) ∈ lw_tbl ∧ Cond.arrayOver (.object RX0) ∈ lw_tbl := by
  refine ⟨?_, ?_, ?_, ?_, ?_, ?_, ?_, ?_, ?_, ?_⟩ <;> decide +kernel
/-- the script in the store -/
def gMs (L : Nat) (xs : Nat → Int32) : gM := fun p i => cond (Nat.beq p 1000) (xs i).toInt (cond (Nat.beq p 1001) (L : Int) 0)
theorem gSpc_start {s : State} {b L : Nat} {xs : Nat → Int32} (hL : L ≤ 3072) (hts : ∀ w ∈ lw_tbl, w.before #[Value.ref b] s = true) (hX : va_X b L xs s s.heap) (hbl : b < s.heap.size) (hgv : gNar.before #[Value.ref b] s = true) :
    ∃ ad adV : Nat → Nat, ad 1000 = b ∧ ∀ (ad' : Nat → Nat) (M : gM), (∀ p, 1000 ≤ p → ad' p = ad p) → M 1000 = gMs L xs 1000 → M 1001 = gMs L xs 1001 → gSpc M ad' adV (fun q => s.heap.size ≤ q) s s.heap := by
  have hs := flat_of_before _ hgv
  have hA : ∀ a : Nat, a < s.heap.size → ¬ (fun q : Nat => s.heap.size ≤ q) a := fun a h => Nat.not_le.mpr h
  obtain ⟨tF, hF1, hF2⟩ := va_Tof (f := fun j => .int (gI (gTb 1002 j))) (A := fun q : Nat => s.heap.size ≤ q) (N := 5) (by decide) (hs _ gN_fad.1) (va_eqt (hs _ gN_fad.2.1)) (fun j hj => va_eqt (hs _ (gN_fade.1 j hj))) hA
  obtain ⟨tO, hO1, hO2⟩ := va_Tof (f := fun j => .int (gI (gTb 1003 j))) (A := fun q : Nat => s.heap.size ≤ q) (N := 6) (by decide) (hs _ gN_fad.2.2.1) (va_eqt (hs _ gN_fad.2.2.2.1)) (fun j hj => va_eqt (hs _ (gN_fade.2 j hj))) hA
  have z1 := va_Zof (hts _ gN_tab.1) (hts _ gN_tab.2.2.2.2.1) hF1 hA
  have z2 := va_Zof (hts _ gN_tab.2.1) (hts _ gN_tab.2.2.2.2.1) hO1 hA
  have z9 := va_Zof (hts _ gN_tab.2.2.1) (hts _ gN_tab.2.2.2.2.2.1) (va_eqi (hs _ gN_fad.2.2.2.2.1)) hA
  have z10 := va_Zqof (hts _ gN_tab.2.2.2.1) (hts _ gN_tab.2.2.2.2.2.2.1) (hs _ gN_fad.2.2.2.2.2) hA
  obtain ⟨adK, adV, hK, hE⟩ := vk_Sof (N := 7) (tm := gTm) (len := gLens) (byt := gByts) (A := fun q : Nat => s.heap.size ≤ q) (fun i hi => (gz_nums i hi).2.1) (fun i hi => hs _ (gN_str.1 i hi)) (fun i hi => hs _ (gN_str.2.1 i hi)) (fun i hi => hs _ (gN_str.2.2.1 i hi)) (fun i hi => hs _ (gN_str.2.2.2 i hi)) (fun i hi j hj => hs _ (gN_el i hi j hj)) (fun i j hi hj hij => (gN_ne i hi j hj hij).imp (hs _) (hs _)) hA
  refine ⟨fun p => if p = 1000 then b else if p = 1002 then tF else if p = 1003 then tO else adK (p - 1010), adV, rfl, fun ad' M had h0 h1 => ?_⟩
  have e0 : ad' 1000 = b := had 1000 (Nat.le_refl _)
  have e2 : ad' 1002 = tF := had 1002 (by omega)
  have e3 : ad' 1003 = tO := had 1003 (by omega)
  have eK : ∀ j, ad' (1010 + j) = adK j := fun j => by
    rw [had (1010 + j) (by omega)]
    show (if 1010 + j = 1000 then b else if 1010 + j = 1002 then tF else if 1010 + j = 1003 then tO else adK (1010 + j - 1010)) = adK j
    rw [if_neg (by omega), if_neg (by omega), if_neg (by omega), show 1010 + j - 1010 = j by omega]
  refine ⟨by rw [e2]; exact z1, by rw [e3]; exact z2, by rw [e2]; exact hF2, by rw [e3]; exact hO2, ⟨?_, ?_⟩, ?_, ?_, z9, z10, ?_⟩
  · rw [h1]
    exact Int.natCast_nonneg L
  · rw [h0, h1, e0]
    obtain ⟨scr, g1, g2, g3, g4, g5⟩ := hX
    refine ⟨scr, g1, g2, g3, ?_, ?_, fun j hj => ?_, hA b hbl⟩
    · show (L : Int).toNat ≤ _
      rw [Int.toNat_natCast, g4]
      exact Nat.le_refl _
    · show scr.slots.size.toInt32 = Int32.ofNat ((L : Int).toNat)
      rw [Int.toNat_natCast, g4]
    · have hj' : j < L := by
        have : j < ((L : Int)).toNat := hj
        rwa [Int.toNat_natCast] at this
      rw [g5 j hj']
      show some (Value.int (xs j)) = some (.int (gI (xs j).toInt))
      rw [gI_back]
  · intro j q hj
    have hj7 : j < 7 := (List.getElem?_eq_some_iff.mp hj).1
    have e : gStrs.getD j (0, "") = q := by rw [List.getD_eq_getElem?_getD, hj]; rfl
    rw [eK]
    have hr := hts _ (gN_ref j hj7)
    have hv := hE j hj7
    unfold gTm at hv
    rw [e] at hr hv
    exact vk_R.of (A := #[Value.ref b]) hr hv
  · have e : (fun i => ad' (1010 + i)) = adK := funext eK
    rw [e]
    exact hK
  · intro w hw
    have h2 := hts w (gN_tab.2.2.2.2.2.2.2.1 w hw)
    simp only [gNest, List.mem_cons, List.not_mem_nil, or_false] at hw
    rcases hw with rfl | rfl | rfl | rfl <;> exact va_Nw.of rfl h2
