-- 11: String.length and String.charAt of the constants, over the machine
theorem gz_S0 {s : State} : va_S (fun _ : Nat => False) s.heap s.heap [] := va_S.rf
theorem gz_pre (l : Launch) (d : Nat) (i n : Int32) (r : Option Nat) (h0 : ¬ i < 0) (h1 : i < n) : Met l yJ3_checkIndex_8e157 (.code yJ3_checkIndex_8e157 cJ3_checkIndex_8e157 3 (some .int) :: gUW) (gRm d) (va_Pc [.int i, .int n, va_rf r] (fun _ => True)) (QcRead i) 0 0 (fun _ : Nat => False) := by
  have key : ∀ v : Value, v.category = 1 → Met l yJ3_checkIndex_8e157 (.code yJ3_checkIndex_8e157 cJ3_checkIndex_8e157 3 (some .int) :: gUW) (gRm d) (va_Pc [.int i, .int n, v] (fun _ => True)) (QcRead i) 0 0 (fun _ : Nat => False) := by
    intro v hv1
    refine Met.ofW (cc := cJ3_checkIndex_8e157) (maxL := 3) (ret := some .int) (by decide +kernel) rfl ?_
    intro p e s m args below meth c s₁ B hml hv
    obtain ⟨rfl, hpre⟩ := hv
    have hx := B.exec
    have hb := B.bytes
    have hr := B.returns
    have hlocks := B.notSynchronized
    have hsl : lg_sl [.int i, .int n, v] = [.val (.int i), .val (.int n), .val v] := by
      simp [lg_sl, hv1]; simp [Value.category]
    have hl := lv_entry ([.int i, .int n, v]) (n := 3) (by rw [hsl]; exact Nat.le_refl 3)
    rw [lg_entry_eq]
    generalize (lg_sl ([.int i, .int n, v]) ++ List.replicate (3 - (lg_sl ([.int i, .int n, v])).length) Slot.unset).toArray = ls at hl ⊢
    have h0' : ls[0]? = some (.val (.int i)) := hl.2.2 (0, .int i) (by simp [lv_args])
    have h1' : ls[1]? = some (.val (.int n)) := hl.2.2 (1, .int n) (by simp [lv_args, Value.category])
    refine lv_iload_n hx hb (pc := 0) (k := 0) (by decide +kernel) rfl h0' ?_
    refine lv_if_lt (tgt := 9) hx hb (pc := 1) (off := 8) (by decide +kernel) (by decide) (fun q => absurd q h0) (fun _ => ?_)
    refine lv_iload_n hx hb (pc := 4) (k := 0) (by decide +kernel) rfl h0' ?_
    refine lv_iload_n hx hb (pc := 5) (k := 1) (by decide +kernel) rfl h1' ?_
    refine lv_icmp_lt (tgt := 16) hx hb (pc := 6) (off := 10) (by decide +kernel) (by decide) (fun _ => ?_) (fun q => absurd h1 q)
    refine lv_iload_n hx hb (pc := 16) (k := 0) (by decide +kernel) rfl h0' ?_
    exact W.iret hx hb hr (fun t ht hW => ⟨rfl, ht⟩) (fun q hq => absurd hq List.not_mem_nil) (by decide +kernel) hlocks
  cases r with
  | none => exact key .null rfl
  | some a => exact key (.ref a) rfl
theorem gz_blindZ (av : List Value) (C n d : String) : FrameBlind (va_Pc av (fun U => va_Zq C n d (fun _ : Nat => False) U U.heap)) := by
  intro a U g mk ⟨h0, h1⟩
  exact ⟨h0, va_Zq.moved (u := U) (U := U.calling g mk a) (Vm.Alike.refl U.vm) h1⟩
theorem gz_chk (l : Launch) (d : Nat) (i n : Int32) (h0 : ¬ i < 0) (h1 : i < n) : Met l yJ0_checkIndex_df160 (.code yJ0_checkIndex_df160 cJ0_checkIndex_df160 2 none :: gUW) (gRm (d + 1)) (va_Pc [.int i, .int n] (fun U => va_Zq "jdk/internal/util/Preconditions" "SIOOBE_FORMATTER" "Ljava/util/function/BiFunction;" (fun _ : Nat => False) U U.heap)) (fun _ st o t => o = .returned none ∧ t.heap = st.heap) 0 0 (fun _ : Nat => False) := by
  refine Met.ofW (cc := cJ0_checkIndex_df160) (maxL := 2) (ret := none) (by decide +kernel) rfl ?_
  intro p e s m args below meth c s₁ B hml hv
  obtain ⟨rfl, hpre⟩ := hv
  have hx := B.exec
  have hb := B.bytes
  have hr := B.returns
  have hts : ∀ w ∈ gUW, w.before _ s = true := fun w hw => atoms_spec (ws := (.code yJ0_checkIndex_df160 cJ0_checkIndex_df160 2 none :: gUW)) B.pre w (List.mem_cons_of_mem _ hw)
  have hown : s.vm.findClass RJ0 = some m.cls := findClass_of_methodNamed B.named
  have hlocks := B.notSynchronized
  have hl := lv_entry ([.int i, .int n]) (n := 2) (Nat.le_of_ble_eq_true rfl)
  rw [lg_entry_eq]
  generalize (lg_sl ([.int i, .int n]) ++ List.replicate (2 - (lg_sl ([.int i, .int n])).length) Slot.unset).toArray = ls at hl ⊢
  have hl : lv_has ls 2 [(0, .int i), (1, .int n)] := hl
  refine lv_iload_n hx hb (pc := 0) (k := 0) (by decide +kernel) rfl (lv_at hl 0 rfl) ?_
  refine lv_iload_n hx hb (pc := 1) (k := 1) (by decide +kernel) rfl (lv_at hl 1 rfl) ?_
  obtain ⟨r, hZ⟩ : ∃ r : Option Nat, va_Z "jdk/internal/util/Preconditions" "SIOOBE_FORMATTER" "Ljava/util/function/BiFunction;" (va_rf r) (fun _ : Nat => False) s s.heap := by
    rcases hpre with h | ⟨t, h⟩
    · exact ⟨none, h⟩
    · exact ⟨some t, h⟩
  refine va_gets hx hb (pc := 2) (index := 1053) hZ gz_S0 hown (hts _ (gWd_UW (w := 413) (by decide +kernel))) (fun _ h => h) (by decide +kernel) ?_
  refine W.callR (r := i) (W.runS (As := [.int i, .int n, va_rf r]) (rest := []) (own := RJ0) (index := 1059) ⟨hx, hb, hml, hown, hts⟩ (gz_pre l d i n r h0 h1) (va_cwS 3 hts ?_ rfl rfl rfl ⟨by decide +kernel, by decide +kernel, by decide +kernel⟩ ⟨Nat.le_refl _, ?_⟩) ⟨fun _ _ _ _ q => q, fun U hU hW => ⟨rfl, trivial⟩⟩ rfl rfl hl.1 rfl (lv_room (Nat.zero_le _)) (show decode cJ0_checkIndex_df160 5 = .ok (.invokestatic 1059, 3) by decide +kernel) ⟨Nat.zero_le _, Nat.zero_le _⟩) ?_
  · intro w hw
    have hm : w ∈ gUW := by
      rcases List.mem_append.mp hw with h | h
      · simp only [List.mem_cons, List.not_mem_nil, or_false] at h
        rcases h with rfl | rfl | rfl
        · exact gWd_UW (w := 415) (by decide +kernel)
        · exact gWd_UW (w := 416) (by decide +kernel)
        · exact gWd_UW (w := 69) (by decide +kernel)
      · rcases List.mem_cons.mp h with rfl | h
        · exact gWd_UW (w := 417) (by decide +kernel)
        · exact h
    exact gUW_good w hm
  · show 8 + (3 + 11) + 60 * d ≤ 60 * (d + 1)
    omega
  · refine lv_pop hx hb (pc := 8) (va := .int i) (by decide +kernel) rfl ?_
    exact W.vret hx hb hr (fun t ht hW => ⟨rfl, ht⟩) (fun q hq => absurd hq List.not_mem_nil) (by decide +kernel) hlocks
theorem gz_blindT (av : List Value) (v n : Nat) (f : Nat → Value) (C nm d : String) : FrameBlind (va_Pc av (fun U => va_T .byte v n f (fun _ : Nat => False) U U.heap ∧ va_Zq C nm d (fun _ : Nat => False) U U.heap)) := by
  intro a U g mk ⟨h0, h1, h2⟩
  exact ⟨h0, va_T.moved (u := U) (U := U.calling g mk a) (Vm.Alike.refl U.vm) h1, va_Zq.moved (u := U) (U := U.calling g mk a) (Vm.Alike.refl U.vm) h2⟩
theorem gz_lat (l : Launch) (d : Nat) (v n : Nat) (f : Nat → Int32) (i : Int32) (hi : vp_in i n) (hn : n < 2 ^ 31) : Met l yJ1_charAt_3b067 (.code yJ1_charAt_3b067 cJ1_charAt_3b067 2 (some .char) :: gUW) (gRm (d + 2)) (va_Pc [.ref v, .int i] (fun U => va_T .byte v n (fun j => .int (f j)) (fun _ : Nat => False) U U.heap ∧ va_Zq "jdk/internal/util/Preconditions" "SIOOBE_FORMATTER" "Ljava/util/function/BiFunction;" (fun _ : Nat => False) U U.heap)) (QcRead (((f i.toNatClampNeg &&& 255).toUInt32 % 65536).toInt32)) 0 0 (fun _ : Nat => False) := by
  refine Met.ofW (cc := cJ1_charAt_3b067) (maxL := 2) (ret := (some .char)) (by decide +kernel) rfl ?_
  intro p e s m args below meth c s₁ B hml hv
  obtain ⟨rfl, hpre⟩ := hv
  have hx := B.exec
  have hb := B.bytes
  have hr := B.returns
  have hts : ∀ w ∈ gUW, w.before _ s = true := fun w hw => atoms_spec (ws := (.code yJ1_charAt_3b067 cJ1_charAt_3b067 2 (some .char) :: gUW)) B.pre w (List.mem_cons_of_mem _ hw)
  have hown : s.vm.findClass RJ1 = some m.cls := findClass_of_methodNamed B.named
  have hlocks := B.notSynchronized
  have hl := lv_entry ([.ref v, .int i]) (n := 2) (Nat.le_of_ble_eq_true rfl)
  rw [lg_entry_eq]
  generalize (lg_sl ([.ref v, .int i]) ++ List.replicate (2 - (lg_sl ([.ref v, .int i])).length) Slot.unset).toArray = ls at hl ⊢
  have hl : lv_has ls 2 [(0, .ref v), (1, .int i)] := hl
  obtain ⟨hT, hZ⟩ := hpre
  have h0 : ¬ i < 0 := fun q => hi (Or.inl q)
  have h1 : i < Int32.ofNat n := by
    rw [Int32.lt_iff_toInt_lt]
    have h2 := (vp_in_iff.mp hi).2
    rw [Int32.toInt_ofNat_of_lt hn]
    exact h2
  refine lv_iload_n hx hb (pc := 0) (k := 1) (by decide +kernel) rfl (lv_at hl 1 rfl) ?_
  refine lv_aload_n hx hb (pc := 1) (k := 0) (by decide +kernel) rfl (lv_at hl 0 rfl) ?_
  refine va_tlen hx hb (pc := 2) hT gz_S0 rfl (by decide +kernel) ?_
  refine W.callX (W.runS (As := [.int i, .int (Int32.ofNat n)]) (rest := []) (own := RJ1) (index := 9) ⟨hx, hb, hml, hown, hts⟩ (gz_chk l d i (Int32.ofNat n) h0 h1) (va_cwS 2 hts ?_ rfl rfl rfl ⟨by decide +kernel, by decide +kernel, by decide +kernel⟩ ⟨Nat.le_refl _, ?_⟩) ⟨gz_blindZ _ _ _ _, fun U hU hW => ⟨rfl, by show va_Zq _ _ _ _ U U.heap; rw [hU]; exact (hZ.moved hW.alike)⟩⟩ rfl rfl hl.1 rfl (lv_room (Nat.zero_le _)) (show decode cJ1_charAt_3b067 3 = .ok (.invokestatic 9, 3) by decide +kernel) ⟨Nat.zero_le _, Nat.zero_le _⟩) (fun _ h => h.elim) (fun v0 st₀ t hst hq => ?_)
  · intro w hw
    have hm : w ∈ gUW := by
      rcases List.mem_append.mp hw with h | h
      · simp only [List.mem_cons, List.not_mem_nil, or_false] at h
        rcases h with rfl | rfl | rfl
        · exact gWd_UW (w := 410) (by decide +kernel)
        · exact gWd_UW (w := 411) (by decide +kernel)
        · exact gWd_UW (w := 67) (by decide +kernel)
      · rcases List.mem_cons.mp h with rfl | h
        · exact gWd_UW (w := 412) (by decide +kernel)
        · exact h
    exact gUW_good w hm
  · show 8 + (2 + 11) + 60 * (d + 1) ≤ 60 * (d + 2)
    omega
  · obtain ⟨e1, e2⟩ := hq
    cases e1
    rw [e2, hst]
    refine W.eq (g2 := F0 m 6 ls []) rfl ?_
    refine lv_aload_n hx hb (pc := 6) (k := 0) (by decide +kernel) rfl (lv_at hl 0 rfl) ?_
    refine lv_iload_n hx hb (pc := 7) (k := 1) (by decide +kernel) rfl (lv_at hl 1 rfl) ?_
    refine va_tb hx hb (pc := 8) hT gz_S0 hi rfl (by decide +kernel) ?_
    refine lv_sipush hx hb (pc := 9) (n := 255) (v := 255) (by decide +kernel) (by decide) ?_
    refine lv_iand hx hb (pc := 12) (by decide +kernel) ?_
    refine lv_i2c hx hb (pc := 13) (by decide +kernel) rfl ?_
    exact W.zret (ty := .char) hx hb hr (pk_nc _) (fun t ht hW => ⟨rfl, ht⟩) (fun q hq => absurd hq List.not_mem_nil) (by decide +kernel) hlocks
theorem gz_blindO (av : List Value) (a : Nat) : FrameBlind (va_Pc av (fun U => va_Z "java/lang/String" "COMPACT_STRINGS" "Z" (.int 1) (fun _ : Nat => False) U U.heap ∧ va_OF "java/lang/String" "coder" "B" (.int 0) a (fun _ : Nat => False) U U.heap)) := by
  intro a' U g mk ⟨h0, h1, h2⟩
  exact ⟨h0, va_Z.moved (u := U) (U := U.calling g mk a') (Vm.Alike.refl U.vm) h1, va_OF.moved (u := U) (U := U.calling g mk a') (Vm.Alike.refl U.vm) h2⟩
theorem gz_coder (l : Launch) (d a : Nat) : Met l yJ0_coder_7d493 (.code yJ0_coder_7d493 cJ0_coder_7d493 1 (some .byte) :: gUW) (gRm d) (va_Pc [.ref a] (fun U => va_Z "java/lang/String" "COMPACT_STRINGS" "Z" (.int 1) (fun _ : Nat => False) U U.heap ∧ va_OF "java/lang/String" "coder" "B" (.int 0) a (fun _ : Nat => False) U U.heap)) (QcRead 0) 0 0 (fun _ : Nat => False) := by
  refine Met.ofW (cc := cJ0_coder_7d493) (maxL := 1) (ret := (some .byte)) (by decide +kernel) rfl ?_
  intro p e s m args below meth c s₁ B hml hv
  obtain ⟨rfl, hpre⟩ := hv
  have hx := B.exec
  have hb := B.bytes
  have hr := B.returns
  have hts : ∀ w ∈ gUW, w.before _ s = true := fun w hw => atoms_spec (ws := (.code yJ0_coder_7d493 cJ0_coder_7d493 1 (some .byte) :: gUW)) B.pre w (List.mem_cons_of_mem _ hw)
  have hown : s.vm.findClass RJ0 = some m.cls := findClass_of_methodNamed B.named
  have hlocks := B.notSynchronized
  have hl := lv_entry ([.ref a]) (n := 1) (Nat.le_of_ble_eq_true rfl)
  rw [lg_entry_eq]
  generalize (lg_sl ([.ref a]) ++ List.replicate (1 - (lg_sl ([.ref a])).length) Slot.unset).toArray = ls at hl ⊢
  have hl : lv_has ls 1 [(0, .ref a)] := hl
  obtain ⟨hZ, hO⟩ := hpre
  refine va_gets hx hb (pc := 0) (index := 38) hZ gz_S0 hown (hts _ (gWd_UW (w := 397) (by decide +kernel))) (fun _ h => h) (by decide +kernel) ?_
  refine lv_if_eq (tgt := 13) hx hb (pc := 3) (off := 10) (by decide +kernel) (by decide) (fun q => absurd q (by decide)) (fun _ => ?_)
  refine lv_aload_n hx hb (pc := 6) (k := 0) (by decide +kernel) rfl (lv_at hl 0 rfl) ?_
  refine vk_getf hx hb (pc := 7) (index := 15) hO gz_S0 hown (hts _ (gWd_UW (w := 1246) (by decide +kernel))) (fun _ h => h) (by decide +kernel) ?_
  refine lv_goto (tgt := 14) hx hb (pc := 10) (off := 4) (by decide +kernel) (by decide) ?_
  exact W.zret (ty := .byte) hx hb hr (by decide) (fun t ht hW => ⟨rfl, ht⟩) (fun q hq => absurd hq List.not_mem_nil) (by decide +kernel) hlocks
theorem gz_isL (l : Launch) (d a : Nat) : Met l yJ0_isLatin1_aae02 (.code yJ0_isLatin1_aae02 cJ0_isLatin1_aae02 1 (some .boolean) :: gUW) (gRm d) (va_Pc [.ref a] (fun U => va_Z "java/lang/String" "COMPACT_STRINGS" "Z" (.int 1) (fun _ : Nat => False) U U.heap ∧ va_OF "java/lang/String" "coder" "B" (.int 0) a (fun _ : Nat => False) U U.heap)) (QcRead 1) 0 0 (fun _ : Nat => False) := by
  refine Met.ofW (cc := cJ0_isLatin1_aae02) (maxL := 1) (ret := (some .boolean)) (by decide +kernel) rfl ?_
  intro p e s m args below meth c s₁ B hml hv
  obtain ⟨rfl, hpre⟩ := hv
  have hx := B.exec
  have hb := B.bytes
  have hr := B.returns
  have hts : ∀ w ∈ gUW, w.before _ s = true := fun w hw => atoms_spec (ws := (.code yJ0_isLatin1_aae02 cJ0_isLatin1_aae02 1 (some .boolean) :: gUW)) B.pre w (List.mem_cons_of_mem _ hw)
  have hown : s.vm.findClass RJ0 = some m.cls := findClass_of_methodNamed B.named
  have hlocks := B.notSynchronized
  have hl := lv_entry ([.ref a]) (n := 1) (Nat.le_of_ble_eq_true rfl)
  rw [lg_entry_eq]
  generalize (lg_sl ([.ref a]) ++ List.replicate (1 - (lg_sl ([.ref a])).length) Slot.unset).toArray = ls at hl ⊢
  have hl : lv_has ls 1 [(0, .ref a)] := hl
  obtain ⟨hZ, hO⟩ := hpre
  refine va_gets hx hb (pc := 0) (index := 38) hZ gz_S0 hown (hts _ (gWd_UW (w := 397) (by decide +kernel))) (fun _ h => h) (by decide +kernel) ?_
  refine lv_if_eq (tgt := 17) hx hb (pc := 3) (off := 14) (by decide +kernel) (by decide) (fun q => absurd q (by decide)) (fun _ => ?_)
  refine lv_aload_n hx hb (pc := 6) (k := 0) (by decide +kernel) rfl (lv_at hl 0 rfl) ?_
  refine vk_getf hx hb (pc := 7) (index := 15) hO gz_S0 hown (hts _ (gWd_UW (w := 1246) (by decide +kernel))) (fun _ h => h) (by decide +kernel) ?_
  refine lv_if_ne (tgt := 17) hx hb (pc := 10) (off := 7) (by decide +kernel) (by decide) (fun q => absurd rfl q) (fun _ => ?_)
  refine lv_iconst hx hb (pc := 13) (n := 1) (v := 1) (by decide +kernel) (by decide) ?_
  refine lv_goto (tgt := 18) hx hb (pc := 14) (off := 4) (by decide +kernel) (by decide) ?_
  exact W.zret (ty := .boolean) hx hb hr (by decide) (fun t ht hW => ⟨rfl, ht⟩) (fun q hq => absurd hq List.not_mem_nil) (by decide +kernel) hlocks
theorem gz_nums : ∀ j : Nat, j < 7 → Int32.ofNat (gLens.getD j 0) >>> ((0 : Int32) &&& 31) = gI (((gStr j).length : Nat) : Int) ∧ gLens.getD j 0 < 2 ^ 31 ∧ gLens.getD j 0 = (gStr j).length := by decide +kernel
theorem gz_chrB : (List.range 7).all (fun j => (List.range (gStr j).length).all (fun k => decide (((((gByts.getD j []).getD k 0) &&& 255).toUInt32 % 65536).toInt32 = gI ((((gStr j).getD k 0 : Nat) : Int))))) = true := by decide +kernel
theorem gz_length (l : Launch) (cA : Nat → ClassId) (D : va_G) (ad adV : Nat → Nat) (d : Nat) (av : List gV) (M : gM) (r : gR) (hd : 5 < d) (h : gSL av M = some r) : gCtr l cA D ad adV (d + 1) yJ0_length_8abf5 (.code yJ0_length_8abf5 cJ0_length_8abf5 1 (some .int) :: gUW) av M r := by
  unfold gSL at h
  split at h
  rotate_left
  · cases h
  rename_i pl
  replace h := cond_some h
  obtain ⟨h60, h⟩ := h
  obtain ⟨j, hj, rfl⟩ := gLay_60 (Nat.eq_of_beq_eq_true h60)
  rw [show 1010 + j - 1010 = j by omega] at h
  cases h
  intro sz
  obtain ⟨hn1, hn2, hn3⟩ := gz_nums j hj
  show Met l yJ0_length_8abf5 (.code yJ0_length_8abf5 cJ0_length_8abf5 1 (some .int) :: gUW) (gRm (d + 1)) (va_Pc [.ref (ad (1010 + j))] (gPre cA D ad adV M sz)) _ 0 0 _
  refine Met.ofW (cc := cJ0_length_8abf5) (maxL := 1) (ret := (some .int)) (by decide +kernel) rfl ?_
  intro p e s m args below meth c s₁ B hml hv
  obtain ⟨rfl, hpre⟩ := hv
  have hx := B.exec
  have hb := B.bytes
  have hr := B.returns
  have hts : ∀ w ∈ gUW, w.before _ s = true := fun w hw => atoms_spec (ws := (.code yJ0_length_8abf5 cJ0_length_8abf5 1 (some .int) :: gUW)) B.pre w (List.mem_cons_of_mem _ hw)
  have hown : s.vm.findClass RJ0 = some m.cls := findClass_of_methodNamed B.named
  have hlocks := B.notSynchronized
  have hl := lv_entry ([.ref (ad (1010 + j))]) (n := 1) (Nat.le_of_ble_eq_true rfl)
  rw [lg_entry_eq]
  generalize (lg_sl ([.ref (ad (1010 + j))]) ++ List.replicate (1 - (lg_sl ([.ref (ad (1010 + j))])).length) Slot.unset).toArray = ls at hl ⊢
  have hl : lv_has ls 1 [(0, .ref (ad (1010 + j)))] := hl
  obtain ⟨hsz, hP, hK, hD0, hsp⟩ := hpre
  subst hsz
  obtain ⟨z1, z2, z3, z4, z5, z7, z8, z9, z10, z11⟩ := hsp
  obtain ⟨o1, o2, o3, o4⟩ := z8.1 j hj
  refine lv_aload_n hx hb (pc := 0) (k := 0) (by decide +kernel) rfl (lv_at hl 0 rfl) ?_
  refine vk_getf hx hb (pc := 1) (index := 9) o3 va_S.rf hown (hts _ (gWd_UW (w := 1245) (by decide +kernel))) (fun _ h => h) (by decide +kernel) ?_
  refine va_tlen hx hb (pc := 4) o4 va_S.rf rfl (by decide +kernel) ?_
  refine lv_aload_n hx hb (pc := 5) (k := 0) (by decide +kernel) rfl (lv_at hl 0 rfl) ?_
  refine W.callR (r := 0) (W.runV (C := RJ0) (As := []) (rest := [.int (Int32.ofNat (gLens.getD j 0))]) (own := RJ0) (index := 335) ⟨hx, hb, hml, hown, hts⟩ (gz_coder l d (ad (1010 + j))) (cwV 0 hts ?_ rfl rfl rfl ⟨rfl, by decide +kernel, by decide +kernel, by decide +kernel⟩ ⟨Nat.le_refl _, ?_⟩) ⟨gz_blindO _ _, vk_recv z8 hj va_S.rf, fun U hU hW => ⟨rfl, by rw [hU]; exact (z9.moved hW.alike).narrow (fun _ h => h.elim), by rw [hU]; exact (o2.moved hW.alike).narrow (fun _ h => h.elim)⟩⟩ rfl rfl hl.1 rfl (lv_room (show (1 : Nat) ≤ 8 by decide)) (show decode cJ0_length_8abf5 6 = .ok (.invokevirtual 335, 3) by decide +kernel) ⟨Nat.zero_le _, Nat.zero_le _⟩) ?_
  · skip
    intro w hw
    have hm : w ∈ gUW := by
      rcases List.mem_append.mp hw with h | h
      · simp only [List.mem_cons, List.not_mem_nil, or_false] at h
        rcases h with rfl | rfl | rfl | rfl
        · exact gWd_UW (w := 393) (by decide +kernel)
        · exact gWd_UW (w := 394) (by decide +kernel)
        · exact gWd_UW (w := 395) (by decide +kernel)
        · exact gWd_UW (w := 67) (by decide +kernel)
      · rcases List.mem_cons.mp h with rfl | h
        · exact gWd_UW (w := 396) (by decide +kernel)
        · exact h
    exact gUW_good w hm
  · show 8 + (1 + 11) + 60 * d ≤ 60 * (d + 1)
    omega
  · refine lv_ishr hx hb (pc := 9) (by decide +kernel) ?_
    refine W.iret hx hb hr (fun t ht hW => ⟨⟨?_, by rw [ht]; exact hP, rfl, rfl⟩, ⟨by rw [ht]; exact Nat.le_refl _, fun q _ _ => by rw [ht]⟩⟩) (fun q hq => absurd hq List.not_mem_nil) (by decide +kernel) hlocks
    rw [hn1]
    rfl
theorem gz_charAt (l : Launch) (cA : Nat → ClassId) (D : va_G) (ad adV : Nat → Nat) (d : Nat) (av : List gV) (M : gM) (r : gR) (hd : 5 < d) (h : gSC av M = some r) : gCtr l cA D ad adV (d + 1) yJ0_charAt_5068e (.code yJ0_charAt_5068e cJ0_charAt_5068e 2 (some .char) :: gUW) av M r := by
  unfold gSC at h
  split at h
  rotate_left
  · cases h
  rename_i pl i
  replace h := cond_some h
  obtain ⟨h60, h⟩ := h
  replace h := gIf_some h
  obtain ⟨hin, h⟩ := h
  obtain ⟨j, hj, rfl⟩ := gLay_60 (Nat.eq_of_beq_eq_true h60)
  rw [show 1010 + j - 1010 = j by omega] at h hin
  cases h
  intro sz
  obtain ⟨hn1, hn2, hn3⟩ := gz_nums j hj
  have hin2 : vp_in (gI i) (gLens.getD j 0) := by rw [hn3]; exact gInb_in hin
  have hix : gIx i < (gStr j).length := by
    have := gInb_in hin
    exact Nat.not_le.mp fun q => this (Or.inr q)
  have hval : ((((gByts.getD j []).getD (gI i).toNatClampNeg 0) &&& 255).toUInt32 % 65536).toInt32 = gI ((((gStr j).getD (gIx i) 0 : Nat) : Int)) := of_decide_eq_true (List.all_eq_true.mp (List.all_eq_true.mp gz_chrB j (List.mem_range.mpr hj)) (gIx i) (List.mem_range.mpr hix))
  show Met l yJ0_charAt_5068e (.code yJ0_charAt_5068e cJ0_charAt_5068e 2 (some .char) :: gUW) (gRm (d + 1)) (va_Pc [.ref (ad (1010 + j)), .int (gI i)] (gPre cA D ad adV M sz)) _ 0 0 _
  refine Met.ofW (cc := cJ0_charAt_5068e) (maxL := 2) (ret := (some .char)) (by decide +kernel) rfl ?_
  intro p e s m args below meth c s₁ B hml hv
  obtain ⟨rfl, hpre⟩ := hv
  have hx := B.exec
  have hb := B.bytes
  have hr := B.returns
  have hts : ∀ w ∈ gUW, w.before _ s = true := fun w hw => atoms_spec (ws := (.code yJ0_charAt_5068e cJ0_charAt_5068e 2 (some .char) :: gUW)) B.pre w (List.mem_cons_of_mem _ hw)
  have hown : s.vm.findClass RJ0 = some m.cls := findClass_of_methodNamed B.named
  have hlocks := B.notSynchronized
  have hl := lv_entry ([.ref (ad (1010 + j)), .int (gI i)]) (n := 2) (Nat.le_of_ble_eq_true rfl)
  rw [lg_entry_eq]
  generalize (lg_sl ([.ref (ad (1010 + j)), .int (gI i)]) ++ List.replicate (2 - (lg_sl ([.ref (ad (1010 + j)), .int (gI i)])).length) Slot.unset).toArray = ls at hl ⊢
  have hl : lv_has ls 2 [(0, .ref (ad (1010 + j))), (1, .int (gI i))] := hl
  obtain ⟨hsz, hP, hK, hD0, hsp⟩ := hpre
  subst hsz
  obtain ⟨z1, z2, z3, z4, z5, z7, z8, z9, z10, z11⟩ := hsp
  obtain ⟨o1, o2, o3, o4⟩ := z8.1 j hj
  obtain ⟨d', rfl⟩ : ∃ d', d = d' + 2 := ⟨d - 2, by omega⟩
  refine lv_aload_n hx hb (pc := 0) (k := 0) (by decide +kernel) rfl (lv_at hl 0 rfl) ?_
  refine W.callR (r := 1) (W.runV (C := RJ0) (As := []) (rest := []) (own := RJ0) (index := 492) ⟨hx, hb, hml, hown, hts⟩ (gz_isL l (d' + 2) (ad (1010 + j))) (cwV 0 hts ?_ rfl rfl rfl ⟨rfl, by decide +kernel, by decide +kernel, by decide +kernel⟩ ⟨Nat.le_refl _, ?_⟩) ⟨gz_blindO _ _, vk_recv z8 hj va_S.rf, fun U hU hW => ⟨rfl, by rw [hU]; exact (z9.moved hW.alike).narrow (fun _ h => h.elim), by rw [hU]; exact (o2.moved hW.alike).narrow (fun _ h => h.elim)⟩⟩ rfl rfl hl.1 rfl (lv_room (Nat.zero_le _)) (show decode cJ0_charAt_5068e 1 = .ok (.invokevirtual 492, 3) by decide +kernel) ⟨Nat.zero_le _, Nat.zero_le _⟩) ?_
  · skip
    intro w hw
    have hm : w ∈ gUW := by
      rcases List.mem_append.mp hw with h | h
      · simp only [List.mem_cons, List.not_mem_nil, or_false] at h
        rcases h with rfl | rfl | rfl | rfl
        · exact gWd_UW (w := 403) (by decide +kernel)
        · exact gWd_UW (w := 404) (by decide +kernel)
        · exact gWd_UW (w := 405) (by decide +kernel)
        · exact gWd_UW (w := 67) (by decide +kernel)
      · rcases List.mem_cons.mp h with rfl | h
        · exact gWd_UW (w := 406) (by decide +kernel)
        · exact h
    exact gUW_good w hm
  · show 8 + (1 + 11) + 60 * (d' + 2) ≤ 60 * (d' + 2 + 1)
    omega
  · refine lv_if_eq (tgt := 16) hx hb (pc := 4) (off := 12) (by decide +kernel) (by decide) (fun q => absurd q (by decide)) (fun _ => ?_)
    refine lv_aload_n hx hb (pc := 7) (k := 0) (by decide +kernel) rfl (lv_at hl 0 rfl) ?_
    refine vk_getf hx hb (pc := 8) (index := 9) o3 va_S.rf hown (hts _ (gWd_UW (w := 1245) (by decide +kernel))) (fun _ h => h) (by decide +kernel) ?_
    refine lv_iload_n hx hb (pc := 11) (k := 1) (by decide +kernel) rfl (lv_at hl 1 rfl) ?_
    refine W.callR (r := ((((gByts.getD j []).getD (gI i).toNatClampNeg 0) &&& 255).toUInt32 % 65536).toInt32) (W.runS (As := [.ref (adV j), .int (gI i)]) (rest := []) (own := RJ0) (index := 495) ⟨hx, hb, hml, hown, hts⟩ (gz_lat l d' (adV j) (gLens.getD j 0) (fun k => (gByts.getD j []).getD k 0) (gI i) hin2 hn2) (va_cwS 2 hts ?_ rfl rfl rfl ⟨by decide +kernel, by decide +kernel, by decide +kernel⟩ ⟨Nat.le_refl _, ?_⟩) ⟨gz_blindT _ _ _ _ _ _ _, fun U hU hW => ⟨rfl, by rw [hU]; exact (o4.moved hW.alike).narrow (fun _ h => h.elim), by rw [hU]; exact (z10.moved hW.alike).narrow (fun _ h => h.elim)⟩⟩ rfl rfl hl.1 rfl (lv_room (Nat.zero_le _)) (show decode cJ0_charAt_5068e 12 = .ok (.invokestatic 495, 3) by decide +kernel) ⟨Nat.zero_le _, Nat.zero_le _⟩) ?_
    · skip
      intro w hw
      have hm : w ∈ gUW := by
        rcases List.mem_append.mp hw with h | h
        · simp only [List.mem_cons, List.not_mem_nil, or_false] at h
          rcases h with rfl | rfl | rfl
          · exact gWd_UW (w := 407) (by decide +kernel)
          · exact gWd_UW (w := 408) (by decide +kernel)
          · exact gWd_UW (w := 68) (by decide +kernel)
        · rcases List.mem_cons.mp h with rfl | h
          · exact gWd_UW (w := 409) (by decide +kernel)
          · exact h
      exact gUW_good w hm
    · show 8 + (2 + 11) + 60 * (d' + 2) ≤ 60 * (d' + 2 + 1)
      omega
    · refine W.zret (ty := .char) hx hb hr (pk_nc _) (fun t ht hW => ⟨⟨?_, by rw [ht]; exact hP, rfl, rfl⟩, ⟨by rw [ht]; exact Nat.le_refl _, fun q _ _ => by rw [ht]⟩⟩) (fun q hq => absurd hq List.not_mem_nil) (show decode cJ0_charAt_5068e 15 = .ok (.ireturn, 1) by decide +kernel) hlocks
      rw [hval]
      rfl
theorem gStr_owe (l : Launch) (cA : Nat → ClassId) (D : va_G) (ad adV : Nat → Nat) : gStrOwe l cA D ad adV := ⟨gz_length l cA D ad adV, gz_charAt l cA D ad adV⟩
