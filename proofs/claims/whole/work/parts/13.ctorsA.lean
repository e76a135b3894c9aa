-- 13: constructors, row by row (by program)
def gw_X1_init (cA : Nat → ClassId) (h0 : Nat) (u : Nat → Nat) : va_W := [(h0, .inr (1, [.int 0, .ref (u 1), .ref (u 2)])), ((u 1), .inl (cA 0, 7, .inl (fun _ => 0))), ((u 2), .inl (cA 0, 21, .inl (fun _ => 0)))]
set_option maxHeartbeats 8000000 in
set_option maxRecDepth 100000 in
theorem gi_X1_init (l : Launch) (cA : Nat → ClassId) (D : va_G) : gInit l cA D yX1_init cX1_init 1 1 2 28 1 [.int 0, .null, .null] (gw_X1_init cA) := by
  intro h0 sz
  refine Met.ofW (cc := cX1_init) (maxL := 1) (ret := none) (by decide +kernel) rfl ?_
  intro p e s m args below meth c s₁ B hml hv
  obtain ⟨rfl, hsz, hP, hK, hD0, hO1, hO0⟩ := hv
  have hx := B.exec
  have hb := B.bytes
  have hr := B.returns
  have hts : ∀ w ∈ gUW, w.before _ s = true := fun w hw => atoms_spec (ws := .code yX1_init cX1_init 1 none :: gUW) B.pre w (List.mem_cons_of_mem _ hw)
  have hown : s.vm.findClass RX1 = some m.cls := findClass_of_methodNamed B.named
  have hlocks := B.notSynchronized
  have hin : meth.name = "<init>" := (name_of_methodNamed B.named B.method).1
  subst hsz
  have hD := hD0.self (sz := s.heap.size)
  generalize hAe : va_A [(h0, .inr (1, [.int 0, .null, .null]))] s.heap.size = A at hD ⊢
  have hA : ∀ q : Nat, s.heap.size ≤ q → A q := fun q h => by rw [← hAe]; exact Or.inr h
  have hS : va_S A s.heap s.heap [] := va_S.rf
  have hl := lv_entry ([.ref h0]) (n := 1) (Nat.le_of_ble_eq_true rfl)
  rw [lg_entry_eq]
  generalize (lg_sl ([.ref h0]) ++ List.replicate (1 - (lg_sl ([.ref h0])).length) Slot.unset).toArray = ls at hl ⊢
  have hl : lv_has ls 1 [(0, .ref h0)] := hl
  refine lv_aload_n hx hb (pc := 0) (k := 0) (show decode cX1_init 0 = .ok (.aload_n 0, 1) by decide +kernel) rfl (lv_at hl 0 rfl) ?_
  refine W.objInit hx hb hown (hts _ (gWd_UW (w := 138) (by decide +kernel))) (hts _ (gWd_UW (w := 79) (by decide +kernel))) (hts _ (gWd_UW (w := 80) (by decide +kernel))) rfl (by rw [hml]; exact hl.1) rfl (show decode cX1_init 1 = .ok (.invokespecial 3, 3) by decide +kernel) (Nat.le_of_ble_eq_true rfl) (Nat.le_of_ble_eq_true rfl) ?_
  refine W.eq (g2 := F0 m 4 ls []) rfl ?_
  refine lv_aload_n hx hb (pc := 4) (k := 0) (show decode cX1_init 4 = .ok (.aload_n 0, 1) by decide +kernel) rfl (lv_at hl 0 rfl) ?_
  refine lv_iconst hx hb (pc := 5) (n := 0) (v := 0) (show decode cX1_init 5 = .ok (.iconst 0, 1) by decide +kernel) (by decide) ?_
  refine va_put (D := D) (ci := 1) (v := .int 0) (ty := .int) (C := RX1) (T := TX1) (N := 3) hx hb hts (gCls_in 1 _ rfl) tyX1 tyX1_ok nmX1 hown hK hP hD hS 0 rfl rfl 0 (by decide) (hts _ (gWd_UW (w := 139) (by decide +kernel))) (fun _ h9 => h9) rfl (by decide +kernel) rfl rfl (Nat.le_of_ble_eq_true rfl) (show decode cX1_init 6 = .ok (.putfield 9, 3) by decide +kernel) (fun H locs hP hD hS => ?_)
  have hP : va_P D vwCl ((h0, .inr (1, [.int 0, .null, .null])) :: ([])) H := hP
  have hD : va_D A ((h0, .inr (1, [.int 0, .null, .null])) :: ([])) := hD
  refine lv_aload_n hx hb (pc := 9) (k := 0) (show decode cX1_init 9 = .ok (.aload_n 0, 1) by decide +kernel) rfl (lv_at hl 0 rfl) ?_
  refine lv_bipush hx hb (pc := 10) (n := 7) (v := 7) (show decode cX1_init 10 = .ok (.bipush 7, 2) by decide +kernel) (by decide) ?_
  refine g_newI (N := 7) hx hb (hts _ gI_words.1) hK hP hD hS hA (by decide) rfl (Nat.le_of_ble_eq_true rfl) (Nat.le_of_ble_eq_true rfl) (Nat.le_of_ble_eq_true rfl) (show decode cX1_init 12 = .ok (.newarray .int, 2) by decide +kernel) (fun q1 H hP hD hS => ?_)
  have hP : va_P D vwCl ((h0, .inr (1, [.int 0, .null, .null])) :: ([] ++ [(q1, .inl (cA 0, 7, .inl (fun _ => 0)))])) H := hP
  have hD : va_D A ((h0, .inr (1, [.int 0, .null, .null])) :: ([] ++ [(q1, .inl (cA 0, 7, .inl (fun _ => 0)))])) := hD
  generalize hch2 : ([] ++ [(q1, .inl (cA 0, 7, .inl (fun _ => 0)))] : va_W) = ch2 at hP hD
  refine va_putF (D := D) (ci := 1) (v := .ref q1) (ty := .array .int) (C := RX1) (T := TX1) (N := 3) hx hb hts (gCls_in 1 _ rfl) tyX1 tyX1_ok nmX1 hown hK hP hD hS 0 rfl rfl 1 (by decide) (hts _ (gWd_UW (w := 142) (by decide +kernel))) (fun _ h9 => h9) rfl hin rfl (by decide +kernel) rfl rfl (Nat.le_of_ble_eq_true rfl) (show decode cX1_init 14 = .ok (.putfield 15, 3) by decide +kernel) (fun H locs hP hD hS => ?_)
  have hP : va_P D vwCl ((h0, .inr (1, [.int 0, .ref q1, .null])) :: (ch2)) H := hP
  have hD : va_D A ((h0, .inr (1, [.int 0, .ref q1, .null])) :: (ch2)) := hD
  refine lv_aload_n hx hb (pc := 17) (k := 0) (show decode cX1_init 17 = .ok (.aload_n 0, 1) by decide +kernel) rfl (lv_at hl 0 rfl) ?_
  refine lv_bipush hx hb (pc := 18) (n := 21) (v := 21) (show decode cX1_init 18 = .ok (.bipush 21, 2) by decide +kernel) (by decide) ?_
  refine g_newI (N := 21) hx hb (hts _ gI_words.1) hK hP hD hS hA (by decide) rfl (Nat.le_of_ble_eq_true rfl) (Nat.le_of_ble_eq_true rfl) (Nat.le_of_ble_eq_true rfl) (show decode cX1_init 20 = .ok (.newarray .int, 2) by decide +kernel) (fun q3 H hP hD hS => ?_)
  have hP : va_P D vwCl ((h0, .inr (1, [.int 0, .ref q1, .null])) :: (ch2 ++ [(q3, .inl (cA 0, 21, .inl (fun _ => 0)))])) H := hP
  have hD : va_D A ((h0, .inr (1, [.int 0, .ref q1, .null])) :: (ch2 ++ [(q3, .inl (cA 0, 21, .inl (fun _ => 0)))])) := hD
  generalize hch4 : (ch2 ++ [(q3, .inl (cA 0, 21, .inl (fun _ => 0)))] : va_W) = ch4 at hP hD
  refine va_putF (D := D) (ci := 1) (v := .ref q3) (ty := .array .int) (C := RX1) (T := TX1) (N := 3) hx hb hts (gCls_in 1 _ rfl) tyX1 tyX1_ok nmX1 hown hK hP hD hS 0 rfl rfl 2 (by decide) (hts _ (gWd_UW (w := 145) (by decide +kernel))) (fun _ h9 => h9) rfl hin rfl (by decide +kernel) rfl rfl (Nat.le_of_ble_eq_true rfl) (show decode cX1_init 22 = .ok (.putfield 19, 3) by decide +kernel) (fun H locs hP hD hS => ?_)
  have hP : va_P D vwCl ((h0, .inr (1, [.int 0, .ref q1, .ref q3])) :: (ch4)) H := hP
  have hD : va_D A ((h0, .inr (1, [.int 0, .ref q1, .ref q3])) :: (ch4)) := hD
  refine W.widen (k := 2) (n := 28) (Nat.le_of_ble_eq_true rfl) (Nat.le_of_ble_eq_true rfl) ?_
  subst hch4
  subst hch2
  exact W.vret hx hb hr (fun t ht hW => ⟨⟨gAd [q1, q3], rfl, trivial, by rw [ht]; exact hP, va_K.moved hW.alike hK, hD⟩, hS.F ht⟩) hS.2.2 (show decode cX1_init 25 = .ok (.return_, 1) by decide +kernel) hlocks
def gw_X4_init (cA : Nat → ClassId) (h0 : Nat) (u : Nat → Nat) : va_W := [(h0, .inr (4, [.int 0, .ref (u 1), .ref (u 2)])), ((u 1), .inl (cA 0, 12, .inl (fun _ => 0))), ((u 2), .inl (cA 0, 12, .inl (fun _ => 0)))]
set_option maxHeartbeats 8000000 in
set_option maxRecDepth 100000 in
theorem gi_X4_init (l : Launch) (cA : Nat → ClassId) (D : va_G) : gInit l cA D yX4_init cX4_init 1 1 2 24 4 [.int 0, .null, .null] (gw_X4_init cA) := by
  intro h0 sz
  refine Met.ofW (cc := cX4_init) (maxL := 1) (ret := none) (by decide +kernel) rfl ?_
  intro p e s m args below meth c s₁ B hml hv
  obtain ⟨rfl, hsz, hP, hK, hD0, hO1, hO0⟩ := hv
  have hx := B.exec
  have hb := B.bytes
  have hr := B.returns
  have hts : ∀ w ∈ gUW, w.before _ s = true := fun w hw => atoms_spec (ws := .code yX4_init cX4_init 1 none :: gUW) B.pre w (List.mem_cons_of_mem _ hw)
  have hown : s.vm.findClass RX4 = some m.cls := findClass_of_methodNamed B.named
  have hlocks := B.notSynchronized
  have hin : meth.name = "<init>" := (name_of_methodNamed B.named B.method).1
  subst hsz
  have hD := hD0.self (sz := s.heap.size)
  generalize hAe : va_A [(h0, .inr (4, [.int 0, .null, .null]))] s.heap.size = A at hD ⊢
  have hA : ∀ q : Nat, s.heap.size ≤ q → A q := fun q h => by rw [← hAe]; exact Or.inr h
  have hS : va_S A s.heap s.heap [] := va_S.rf
  have hl := lv_entry ([.ref h0]) (n := 1) (Nat.le_of_ble_eq_true rfl)
  rw [lg_entry_eq]
  generalize (lg_sl ([.ref h0]) ++ List.replicate (1 - (lg_sl ([.ref h0])).length) Slot.unset).toArray = ls at hl ⊢
  have hl : lv_has ls 1 [(0, .ref h0)] := hl
  refine lv_aload_n hx hb (pc := 0) (k := 0) (show decode cX4_init 0 = .ok (.aload_n 0, 1) by decide +kernel) rfl (lv_at hl 0 rfl) ?_
  refine W.objInit hx hb hown (hts _ (gWd_UW (w := 176) (by decide +kernel))) (hts _ (gWd_UW (w := 79) (by decide +kernel))) (hts _ (gWd_UW (w := 80) (by decide +kernel))) rfl (by rw [hml]; exact hl.1) rfl (show decode cX4_init 1 = .ok (.invokespecial 3, 3) by decide +kernel) (Nat.le_of_ble_eq_true rfl) (Nat.le_of_ble_eq_true rfl) ?_
  refine W.eq (g2 := F0 m 4 ls []) rfl ?_
  refine lv_aload_n hx hb (pc := 4) (k := 0) (show decode cX4_init 4 = .ok (.aload_n 0, 1) by decide +kernel) rfl (lv_at hl 0 rfl) ?_
  refine lv_iconst hx hb (pc := 5) (n := 0) (v := 0) (show decode cX4_init 5 = .ok (.iconst 0, 1) by decide +kernel) (by decide) ?_
  refine va_put (D := D) (ci := 4) (v := .int 0) (ty := .int) (C := RX4) (T := TX4) (N := 3) hx hb hts (gCls_in 4 _ rfl) tyX4 tyX4_ok nmX4 hown hK hP hD hS 0 rfl rfl 0 (by decide) (hts _ (gWd_UW (w := 177) (by decide +kernel))) (fun _ h9 => h9) rfl (by decide +kernel) rfl rfl (Nat.le_of_ble_eq_true rfl) (show decode cX4_init 6 = .ok (.putfield 9, 3) by decide +kernel) (fun H locs hP hD hS => ?_)
  have hP : va_P D vwCl ((h0, .inr (4, [.int 0, .null, .null])) :: ([])) H := hP
  have hD : va_D A ((h0, .inr (4, [.int 0, .null, .null])) :: ([])) := hD
  refine lv_aload_n hx hb (pc := 9) (k := 0) (show decode cX4_init 9 = .ok (.aload_n 0, 1) by decide +kernel) rfl (lv_at hl 0 rfl) ?_
  refine lv_bipush hx hb (pc := 10) (n := 12) (v := 12) (show decode cX4_init 10 = .ok (.bipush 12, 2) by decide +kernel) (by decide) ?_
  refine g_newI (N := 12) hx hb (hts _ gI_words.1) hK hP hD hS hA (by decide) rfl (Nat.le_of_ble_eq_true rfl) (Nat.le_of_ble_eq_true rfl) (Nat.le_of_ble_eq_true rfl) (show decode cX4_init 12 = .ok (.newarray .int, 2) by decide +kernel) (fun q1 H hP hD hS => ?_)
  have hP : va_P D vwCl ((h0, .inr (4, [.int 0, .null, .null])) :: ([] ++ [(q1, .inl (cA 0, 12, .inl (fun _ => 0)))])) H := hP
  have hD : va_D A ((h0, .inr (4, [.int 0, .null, .null])) :: ([] ++ [(q1, .inl (cA 0, 12, .inl (fun _ => 0)))])) := hD
  generalize hch2 : ([] ++ [(q1, .inl (cA 0, 12, .inl (fun _ => 0)))] : va_W) = ch2 at hP hD
  refine va_putF (D := D) (ci := 4) (v := .ref q1) (ty := .array .int) (C := RX4) (T := TX4) (N := 3) hx hb hts (gCls_in 4 _ rfl) tyX4 tyX4_ok nmX4 hown hK hP hD hS 0 rfl rfl 1 (by decide) (hts _ (gWd_UW (w := 180) (by decide +kernel))) (fun _ h9 => h9) rfl hin rfl (by decide +kernel) rfl rfl (Nat.le_of_ble_eq_true rfl) (show decode cX4_init 14 = .ok (.putfield 15, 3) by decide +kernel) (fun H locs hP hD hS => ?_)
  have hP : va_P D vwCl ((h0, .inr (4, [.int 0, .ref q1, .null])) :: (ch2)) H := hP
  have hD : va_D A ((h0, .inr (4, [.int 0, .ref q1, .null])) :: (ch2)) := hD
  refine lv_aload_n hx hb (pc := 17) (k := 0) (show decode cX4_init 17 = .ok (.aload_n 0, 1) by decide +kernel) rfl (lv_at hl 0 rfl) ?_
  refine lv_bipush hx hb (pc := 18) (n := 12) (v := 12) (show decode cX4_init 18 = .ok (.bipush 12, 2) by decide +kernel) (by decide) ?_
  refine g_newI (N := 12) hx hb (hts _ gI_words.1) hK hP hD hS hA (by decide) rfl (Nat.le_of_ble_eq_true rfl) (Nat.le_of_ble_eq_true rfl) (Nat.le_of_ble_eq_true rfl) (show decode cX4_init 20 = .ok (.newarray .int, 2) by decide +kernel) (fun q3 H hP hD hS => ?_)
  have hP : va_P D vwCl ((h0, .inr (4, [.int 0, .ref q1, .null])) :: (ch2 ++ [(q3, .inl (cA 0, 12, .inl (fun _ => 0)))])) H := hP
  have hD : va_D A ((h0, .inr (4, [.int 0, .ref q1, .null])) :: (ch2 ++ [(q3, .inl (cA 0, 12, .inl (fun _ => 0)))])) := hD
  generalize hch4 : (ch2 ++ [(q3, .inl (cA 0, 12, .inl (fun _ => 0)))] : va_W) = ch4 at hP hD
  refine va_putF (D := D) (ci := 4) (v := .ref q3) (ty := .array .int) (C := RX4) (T := TX4) (N := 3) hx hb hts (gCls_in 4 _ rfl) tyX4 tyX4_ok nmX4 hown hK hP hD hS 0 rfl rfl 2 (by decide) (hts _ (gWd_UW (w := 183) (by decide +kernel))) (fun _ h9 => h9) rfl hin rfl (by decide +kernel) rfl rfl (Nat.le_of_ble_eq_true rfl) (show decode cX4_init 22 = .ok (.putfield 19, 3) by decide +kernel) (fun H locs hP hD hS => ?_)
  have hP : va_P D vwCl ((h0, .inr (4, [.int 0, .ref q1, .ref q3])) :: (ch4)) H := hP
  have hD : va_D A ((h0, .inr (4, [.int 0, .ref q1, .ref q3])) :: (ch4)) := hD
  refine W.widen (k := 2) (n := 24) (Nat.le_of_ble_eq_true rfl) (Nat.le_of_ble_eq_true rfl) ?_
  subst hch4
  subst hch2
  exact W.vret hx hb hr (fun t ht hW => ⟨⟨gAd [q1, q3], rfl, trivial, by rw [ht]; exact hP, va_K.moved hW.alike hK, hD⟩, hS.F ht⟩) hS.2.2 (show decode cX4_init 25 = .ok (.return_, 1) by decide +kernel) hlocks
def gw_X0_init (cA : Nat → ClassId) (h0 : Nat) (u : Nat → Nat) : va_W := [(h0, .inr (0, [.int 0, .int 0, .ref (u 1), .ref (u 2)])), ((u 1), .inl (cA 0, 10, .inl (fun _ => 0))), ((u 2), .inl (cA 0, 10, .inl (fun _ => 0)))]
set_option maxHeartbeats 8000000 in
set_option maxRecDepth 100000 in
theorem gi_X0_init (l : Launch) (cA : Nat → ClassId) (D : va_G) : gInit l cA D yX0_init cX0_init 1 1 2 20 0 [.int 0, .int 0, .null, .null] (gw_X0_init cA) := by
  intro h0 sz
  refine Met.ofW (cc := cX0_init) (maxL := 1) (ret := none) (by decide +kernel) rfl ?_
  intro p e s m args below meth c s₁ B hml hv
  obtain ⟨rfl, hsz, hP, hK, hD0, hO1, hO0⟩ := hv
  have hx := B.exec
  have hb := B.bytes
  have hr := B.returns
  have hts : ∀ w ∈ gUW, w.before _ s = true := fun w hw => atoms_spec (ws := .code yX0_init cX0_init 1 none :: gUW) B.pre w (List.mem_cons_of_mem _ hw)
  have hown : s.vm.findClass RX0 = some m.cls := findClass_of_methodNamed B.named
  have hlocks := B.notSynchronized
  have hin : meth.name = "<init>" := (name_of_methodNamed B.named B.method).1
  subst hsz
  have hD := hD0.self (sz := s.heap.size)
  generalize hAe : va_A [(h0, .inr (0, [.int 0, .int 0, .null, .null]))] s.heap.size = A at hD ⊢
  have hA : ∀ q : Nat, s.heap.size ≤ q → A q := fun q h => by rw [← hAe]; exact Or.inr h
  have hS : va_S A s.heap s.heap [] := va_S.rf
  have hl := lv_entry ([.ref h0]) (n := 1) (Nat.le_of_ble_eq_true rfl)
  rw [lg_entry_eq]
  generalize (lg_sl ([.ref h0]) ++ List.replicate (1 - (lg_sl ([.ref h0])).length) Slot.unset).toArray = ls at hl ⊢
  have hl : lv_has ls 1 [(0, .ref h0)] := hl
  refine lv_aload_n hx hb (pc := 0) (k := 0) (show decode cX0_init 0 = .ok (.aload_n 0, 1) by decide +kernel) rfl (lv_at hl 0 rfl) ?_
  refine W.objInit hx hb hown (hts _ (gWd_UW (w := 285) (by decide +kernel))) (hts _ (gWd_UW (w := 79) (by decide +kernel))) (hts _ (gWd_UW (w := 80) (by decide +kernel))) rfl (by rw [hml]; exact hl.1) rfl (show decode cX0_init 1 = .ok (.invokespecial 3, 3) by decide +kernel) (Nat.le_of_ble_eq_true rfl) (Nat.le_of_ble_eq_true rfl) ?_
  refine W.eq (g2 := F0 m 4 ls []) rfl ?_
  refine lv_aload_n hx hb (pc := 4) (k := 0) (show decode cX0_init 4 = .ok (.aload_n 0, 1) by decide +kernel) rfl (lv_at hl 0 rfl) ?_
  refine lv_iconst hx hb (pc := 5) (n := 0) (v := 0) (show decode cX0_init 5 = .ok (.iconst 0, 1) by decide +kernel) (by decide) ?_
  refine va_put (D := D) (ci := 0) (v := .int 0) (ty := .boolean) (C := RX0) (T := TX0) (N := 4) hx hb hts (gCls_in 0 _ rfl) tyX0 tyX0_ok nmX0 hown hK hP hD hS 0 rfl rfl 0 (by decide) (hts _ (gWd_UW (w := 286) (by decide +kernel))) (fun _ h9 => h9) rfl (by decide +kernel) rfl rfl (Nat.le_of_ble_eq_true rfl) (show decode cX0_init 6 = .ok (.putfield 9, 3) by decide +kernel) (fun H locs hP hD hS => ?_)
  have hP : va_P D vwCl ((h0, .inr (0, [.int 0, .int 0, .null, .null])) :: ([])) H := hP
  have hD : va_D A ((h0, .inr (0, [.int 0, .int 0, .null, .null])) :: ([])) := hD
  refine lv_aload_n hx hb (pc := 9) (k := 0) (show decode cX0_init 9 = .ok (.aload_n 0, 1) by decide +kernel) rfl (lv_at hl 0 rfl) ?_
  refine lv_iconst hx hb (pc := 10) (n := 0) (v := 0) (show decode cX0_init 10 = .ok (.iconst 0, 1) by decide +kernel) (by decide) ?_
  refine va_put (D := D) (ci := 0) (v := .int 0) (ty := .int) (C := RX0) (T := TX0) (N := 4) hx hb hts (gCls_in 0 _ rfl) tyX0 tyX0_ok nmX0 hown hK hP hD hS 0 rfl rfl 1 (by decide) (hts _ (gWd_UW (w := 288) (by decide +kernel))) (fun _ h9 => h9) rfl (by decide +kernel) rfl rfl (Nat.le_of_ble_eq_true rfl) (show decode cX0_init 11 = .ok (.putfield 15, 3) by decide +kernel) (fun H locs hP hD hS => ?_)
  have hP : va_P D vwCl ((h0, .inr (0, [.int 0, .int 0, .null, .null])) :: ([])) H := hP
  have hD : va_D A ((h0, .inr (0, [.int 0, .int 0, .null, .null])) :: ([])) := hD
  refine lv_aload_n hx hb (pc := 14) (k := 0) (show decode cX0_init 14 = .ok (.aload_n 0, 1) by decide +kernel) rfl (lv_at hl 0 rfl) ?_
  refine lv_bipush hx hb (pc := 15) (n := 10) (v := 10) (show decode cX0_init 15 = .ok (.bipush 10, 2) by decide +kernel) (by decide) ?_
  refine g_newI (N := 10) hx hb (hts _ gI_words.1) hK hP hD hS hA (by decide) rfl (Nat.le_of_ble_eq_true rfl) (Nat.le_of_ble_eq_true rfl) (Nat.le_of_ble_eq_true rfl) (show decode cX0_init 17 = .ok (.newarray .int, 2) by decide +kernel) (fun q1 H hP hD hS => ?_)
  have hP : va_P D vwCl ((h0, .inr (0, [.int 0, .int 0, .null, .null])) :: ([] ++ [(q1, .inl (cA 0, 10, .inl (fun _ => 0)))])) H := hP
  have hD : va_D A ((h0, .inr (0, [.int 0, .int 0, .null, .null])) :: ([] ++ [(q1, .inl (cA 0, 10, .inl (fun _ => 0)))])) := hD
  generalize hch2 : ([] ++ [(q1, .inl (cA 0, 10, .inl (fun _ => 0)))] : va_W) = ch2 at hP hD
  refine va_putF (D := D) (ci := 0) (v := .ref q1) (ty := .array .int) (C := RX0) (T := TX0) (N := 4) hx hb hts (gCls_in 0 _ rfl) tyX0 tyX0_ok nmX0 hown hK hP hD hS 0 rfl rfl 2 (by decide) (hts _ (gWd_UW (w := 290) (by decide +kernel))) (fun _ h9 => h9) rfl hin rfl (by decide +kernel) rfl rfl (Nat.le_of_ble_eq_true rfl) (show decode cX0_init 19 = .ok (.putfield 19, 3) by decide +kernel) (fun H locs hP hD hS => ?_)
  have hP : va_P D vwCl ((h0, .inr (0, [.int 0, .int 0, .ref q1, .null])) :: (ch2)) H := hP
  have hD : va_D A ((h0, .inr (0, [.int 0, .int 0, .ref q1, .null])) :: (ch2)) := hD
  refine lv_aload_n hx hb (pc := 22) (k := 0) (show decode cX0_init 22 = .ok (.aload_n 0, 1) by decide +kernel) rfl (lv_at hl 0 rfl) ?_
  refine lv_bipush hx hb (pc := 23) (n := 10) (v := 10) (show decode cX0_init 23 = .ok (.bipush 10, 2) by decide +kernel) (by decide) ?_
  refine g_newI (N := 10) hx hb (hts _ gI_words.1) hK hP hD hS hA (by decide) rfl (Nat.le_of_ble_eq_true rfl) (Nat.le_of_ble_eq_true rfl) (Nat.le_of_ble_eq_true rfl) (show decode cX0_init 25 = .ok (.newarray .int, 2) by decide +kernel) (fun q3 H hP hD hS => ?_)
  have hP : va_P D vwCl ((h0, .inr (0, [.int 0, .int 0, .ref q1, .null])) :: (ch2 ++ [(q3, .inl (cA 0, 10, .inl (fun _ => 0)))])) H := hP
  have hD : va_D A ((h0, .inr (0, [.int 0, .int 0, .ref q1, .null])) :: (ch2 ++ [(q3, .inl (cA 0, 10, .inl (fun _ => 0)))])) := hD
  generalize hch4 : (ch2 ++ [(q3, .inl (cA 0, 10, .inl (fun _ => 0)))] : va_W) = ch4 at hP hD
  refine va_putF (D := D) (ci := 0) (v := .ref q3) (ty := .array .int) (C := RX0) (T := TX0) (N := 4) hx hb hts (gCls_in 0 _ rfl) tyX0 tyX0_ok nmX0 hown hK hP hD hS 0 rfl rfl 3 (by decide) (hts _ (gWd_UW (w := 292) (by decide +kernel))) (fun _ h9 => h9) rfl hin rfl (by decide +kernel) rfl rfl (Nat.le_of_ble_eq_true rfl) (show decode cX0_init 27 = .ok (.putfield 23, 3) by decide +kernel) (fun H locs hP hD hS => ?_)
  have hP : va_P D vwCl ((h0, .inr (0, [.int 0, .int 0, .ref q1, .ref q3])) :: (ch4)) H := hP
  have hD : va_D A ((h0, .inr (0, [.int 0, .int 0, .ref q1, .ref q3])) :: (ch4)) := hD
  refine W.widen (k := 2) (n := 20) (Nat.le_of_ble_eq_true rfl) (Nat.le_of_ble_eq_true rfl) ?_
  subst hch4
  subst hch2
  exact W.vret hx hb hr (fun t ht hW => ⟨⟨gAd [q1, q3], rfl, trivial, by rw [ht]; exact hP, va_K.moved hW.alike hK, hD⟩, hS.F ht⟩) hS.2.2 (show decode cX0_init 30 = .ok (.return_, 1) by decide +kernel) hlocks
def gw_X2_init (cA : Nat → ClassId) (h0 : Nat) (u : Nat → Nat) : va_W := [(h0, .inr (2, [.ref (u 1), .ref (u 2), .ref (u 3)])), ((u 1), .inl (cA 0, 7, .inl (fun _ => 0))), ((u 2), .inl (cA 0, 7, .inl (fun _ => 0))), ((u 3), .inl (cA 0, 7, .inl (fun _ => 0)))]
set_option maxHeartbeats 8000000 in
set_option maxRecDepth 100000 in
theorem gi_X2_init (l : Launch) (cA : Nat → ClassId) (D : va_G) : gInit l cA D yX2_init cX2_init 1 1 3 21 2 [.null, .null, .null] (gw_X2_init cA) := by
  intro h0 sz
  refine Met.ofW (cc := cX2_init) (maxL := 1) (ret := none) (by decide +kernel) rfl ?_
  intro p e s m args below meth c s₁ B hml hv
  obtain ⟨rfl, hsz, hP, hK, hD0, hO1, hO0⟩ := hv
  have hx := B.exec
  have hb := B.bytes
  have hr := B.returns
  have hts : ∀ w ∈ gUW, w.before _ s = true := fun w hw => atoms_spec (ws := .code yX2_init cX2_init 1 none :: gUW) B.pre w (List.mem_cons_of_mem _ hw)
  have hown : s.vm.findClass RX2 = some m.cls := findClass_of_methodNamed B.named
  have hlocks := B.notSynchronized
  have hin : meth.name = "<init>" := (name_of_methodNamed B.named B.method).1
  subst hsz
  have hD := hD0.self (sz := s.heap.size)
  generalize hAe : va_A [(h0, .inr (2, [.null, .null, .null]))] s.heap.size = A at hD ⊢
  have hA : ∀ q : Nat, s.heap.size ≤ q → A q := fun q h => by rw [← hAe]; exact Or.inr h
  have hS : va_S A s.heap s.heap [] := va_S.rf
  have hl := lv_entry ([.ref h0]) (n := 1) (Nat.le_of_ble_eq_true rfl)
  rw [lg_entry_eq]
  generalize (lg_sl ([.ref h0]) ++ List.replicate (1 - (lg_sl ([.ref h0])).length) Slot.unset).toArray = ls at hl ⊢
  have hl : lv_has ls 1 [(0, .ref h0)] := hl
  refine lv_aload_n hx hb (pc := 0) (k := 0) (show decode cX2_init 0 = .ok (.aload_n 0, 1) by decide +kernel) rfl (lv_at hl 0 rfl) ?_
  refine W.objInit hx hb hown (hts _ (gWd_UW (w := 267) (by decide +kernel))) (hts _ (gWd_UW (w := 79) (by decide +kernel))) (hts _ (gWd_UW (w := 80) (by decide +kernel))) rfl (by rw [hml]; exact hl.1) rfl (show decode cX2_init 1 = .ok (.invokespecial 3, 3) by decide +kernel) (Nat.le_of_ble_eq_true rfl) (Nat.le_of_ble_eq_true rfl) ?_
  refine W.eq (g2 := F0 m 4 ls []) rfl ?_
  refine lv_aload_n hx hb (pc := 4) (k := 0) (show decode cX2_init 4 = .ok (.aload_n 0, 1) by decide +kernel) rfl (lv_at hl 0 rfl) ?_
  refine lv_bipush hx hb (pc := 5) (n := 7) (v := 7) (show decode cX2_init 5 = .ok (.bipush 7, 2) by decide +kernel) (by decide) ?_
  refine g_newI (N := 7) hx hb (hts _ gI_words.1) hK hP hD hS hA (by decide) rfl (Nat.le_of_ble_eq_true rfl) (Nat.le_of_ble_eq_true rfl) (Nat.le_of_ble_eq_true rfl) (show decode cX2_init 7 = .ok (.newarray .int, 2) by decide +kernel) (fun q1 H hP hD hS => ?_)
  have hP : va_P D vwCl ((h0, .inr (2, [.null, .null, .null])) :: ([] ++ [(q1, .inl (cA 0, 7, .inl (fun _ => 0)))])) H := hP
  have hD : va_D A ((h0, .inr (2, [.null, .null, .null])) :: ([] ++ [(q1, .inl (cA 0, 7, .inl (fun _ => 0)))])) := hD
  generalize hch2 : ([] ++ [(q1, .inl (cA 0, 7, .inl (fun _ => 0)))] : va_W) = ch2 at hP hD
  refine va_putF (D := D) (ci := 2) (v := .ref q1) (ty := .array .int) (C := RX2) (T := TX2) (N := 3) hx hb hts (gCls_in 2 _ rfl) tyX2 tyX2_ok nmX2 hown hK hP hD hS 0 rfl rfl 0 (by decide) (hts _ (gWd_UW (w := 268) (by decide +kernel))) (fun _ h9 => h9) rfl hin rfl (by decide +kernel) rfl rfl (Nat.le_of_ble_eq_true rfl) (show decode cX2_init 9 = .ok (.putfield 9, 3) by decide +kernel) (fun H locs hP hD hS => ?_)
  have hP : va_P D vwCl ((h0, .inr (2, [.ref q1, .null, .null])) :: (ch2)) H := hP
  have hD : va_D A ((h0, .inr (2, [.ref q1, .null, .null])) :: (ch2)) := hD
  refine lv_aload_n hx hb (pc := 12) (k := 0) (show decode cX2_init 12 = .ok (.aload_n 0, 1) by decide +kernel) rfl (lv_at hl 0 rfl) ?_
  refine lv_bipush hx hb (pc := 13) (n := 7) (v := 7) (show decode cX2_init 13 = .ok (.bipush 7, 2) by decide +kernel) (by decide) ?_
  refine g_newI (N := 7) hx hb (hts _ gI_words.1) hK hP hD hS hA (by decide) rfl (Nat.le_of_ble_eq_true rfl) (Nat.le_of_ble_eq_true rfl) (Nat.le_of_ble_eq_true rfl) (show decode cX2_init 15 = .ok (.newarray .int, 2) by decide +kernel) (fun q3 H hP hD hS => ?_)
  have hP : va_P D vwCl ((h0, .inr (2, [.ref q1, .null, .null])) :: (ch2 ++ [(q3, .inl (cA 0, 7, .inl (fun _ => 0)))])) H := hP
  have hD : va_D A ((h0, .inr (2, [.ref q1, .null, .null])) :: (ch2 ++ [(q3, .inl (cA 0, 7, .inl (fun _ => 0)))])) := hD
  generalize hch4 : (ch2 ++ [(q3, .inl (cA 0, 7, .inl (fun _ => 0)))] : va_W) = ch4 at hP hD
  refine va_putF (D := D) (ci := 2) (v := .ref q3) (ty := .array .int) (C := RX2) (T := TX2) (N := 3) hx hb hts (gCls_in 2 _ rfl) tyX2 tyX2_ok nmX2 hown hK hP hD hS 0 rfl rfl 1 (by decide) (hts _ (gWd_UW (w := 269) (by decide +kernel))) (fun _ h9 => h9) rfl hin rfl (by decide +kernel) rfl rfl (Nat.le_of_ble_eq_true rfl) (show decode cX2_init 17 = .ok (.putfield 15, 3) by decide +kernel) (fun H locs hP hD hS => ?_)
  have hP : va_P D vwCl ((h0, .inr (2, [.ref q1, .ref q3, .null])) :: (ch4)) H := hP
  have hD : va_D A ((h0, .inr (2, [.ref q1, .ref q3, .null])) :: (ch4)) := hD
  refine lv_aload_n hx hb (pc := 20) (k := 0) (show decode cX2_init 20 = .ok (.aload_n 0, 1) by decide +kernel) rfl (lv_at hl 0 rfl) ?_
  refine lv_bipush hx hb (pc := 21) (n := 7) (v := 7) (show decode cX2_init 21 = .ok (.bipush 7, 2) by decide +kernel) (by decide) ?_
  refine g_newI (N := 7) hx hb (hts _ gI_words.1) hK hP hD hS hA (by decide) rfl (Nat.le_of_ble_eq_true rfl) (Nat.le_of_ble_eq_true rfl) (Nat.le_of_ble_eq_true rfl) (show decode cX2_init 23 = .ok (.newarray .int, 2) by decide +kernel) (fun q5 H hP hD hS => ?_)
  have hP : va_P D vwCl ((h0, .inr (2, [.ref q1, .ref q3, .null])) :: (ch4 ++ [(q5, .inl (cA 0, 7, .inl (fun _ => 0)))])) H := hP
  have hD : va_D A ((h0, .inr (2, [.ref q1, .ref q3, .null])) :: (ch4 ++ [(q5, .inl (cA 0, 7, .inl (fun _ => 0)))])) := hD
  generalize hch6 : (ch4 ++ [(q5, .inl (cA 0, 7, .inl (fun _ => 0)))] : va_W) = ch6 at hP hD
  refine va_putF (D := D) (ci := 2) (v := .ref q5) (ty := .array .int) (C := RX2) (T := TX2) (N := 3) hx hb hts (gCls_in 2 _ rfl) tyX2 tyX2_ok nmX2 hown hK hP hD hS 0 rfl rfl 2 (by decide) (hts _ (gWd_UW (w := 271) (by decide +kernel))) (fun _ h9 => h9) rfl hin rfl (by decide +kernel) rfl rfl (Nat.le_of_ble_eq_true rfl) (show decode cX2_init 25 = .ok (.putfield 18, 3) by decide +kernel) (fun H locs hP hD hS => ?_)
  have hP : va_P D vwCl ((h0, .inr (2, [.ref q1, .ref q3, .ref q5])) :: (ch6)) H := hP
  have hD : va_D A ((h0, .inr (2, [.ref q1, .ref q3, .ref q5])) :: (ch6)) := hD
  refine W.widen (k := 3) (n := 21) (Nat.le_of_ble_eq_true rfl) (Nat.le_of_ble_eq_true rfl) ?_
  subst hch6
  subst hch4
  subst hch2
  exact W.vret hx hb hr (fun t ht hW => ⟨⟨gAd [q1, q3, q5], rfl, trivial, by rw [ht]; exact hP, va_K.moved hW.alike hK, hD⟩, hS.F ht⟩) hS.2.2 (show decode cX2_init 28 = .ok (.return_, 1) by decide +kernel) hlocks
def gw_X6_init (cA : Nat → ClassId) (h0 : Nat) (u : Nat → Nat) : va_W := [(h0, .inr (6, [.int 0, .ref (u 1), .ref (u 2), .ref (u 3)])), ((u 1), .inl (cA 0, 6, .inl (fun _ => 0))), ((u 2), .inl (cA 0, 6, .inl (fun _ => 0))), ((u 3), .inl (cA 0, 6, .inl (fun _ => 0)))]
set_option maxHeartbeats 8000000 in
set_option maxRecDepth 100000 in
theorem gi_X6_init (l : Launch) (cA : Nat → ClassId) (D : va_G) : gInit l cA D yX6_init cX6_init 1 1 3 18 6 [.int 0, .null, .null, .null] (gw_X6_init cA) := by
  intro h0 sz
  refine Met.ofW (cc := cX6_init) (maxL := 1) (ret := none) (by decide +kernel) rfl ?_
  intro p e s m args below meth c s₁ B hml hv
  obtain ⟨rfl, hsz, hP, hK, hD0, hO1, hO0⟩ := hv
  have hx := B.exec
  have hb := B.bytes
  have hr := B.returns
  have hts : ∀ w ∈ gUW, w.before _ s = true := fun w hw => atoms_spec (ws := .code yX6_init cX6_init 1 none :: gUW) B.pre w (List.mem_cons_of_mem _ hw)
  have hown : s.vm.findClass RX6 = some m.cls := findClass_of_methodNamed B.named
  have hlocks := B.notSynchronized
  have hin : meth.name = "<init>" := (name_of_methodNamed B.named B.method).1
  subst hsz
  have hD := hD0.self (sz := s.heap.size)
  generalize hAe : va_A [(h0, .inr (6, [.int 0, .null, .null, .null]))] s.heap.size = A at hD ⊢
  have hA : ∀ q : Nat, s.heap.size ≤ q → A q := fun q h => by rw [← hAe]; exact Or.inr h
  have hS : va_S A s.heap s.heap [] := va_S.rf
  have hl := lv_entry ([.ref h0]) (n := 1) (Nat.le_of_ble_eq_true rfl)
  rw [lg_entry_eq]
  generalize (lg_sl ([.ref h0]) ++ List.replicate (1 - (lg_sl ([.ref h0])).length) Slot.unset).toArray = ls at hl ⊢
  have hl : lv_has ls 1 [(0, .ref h0)] := hl
  refine lv_aload_n hx hb (pc := 0) (k := 0) (show decode cX6_init 0 = .ok (.aload_n 0, 1) by decide +kernel) rfl (lv_at hl 0 rfl) ?_
  refine W.objInit hx hb hown (hts _ (gWd_UW (w := 220) (by decide +kernel))) (hts _ (gWd_UW (w := 79) (by decide +kernel))) (hts _ (gWd_UW (w := 80) (by decide +kernel))) rfl (by rw [hml]; exact hl.1) rfl (show decode cX6_init 1 = .ok (.invokespecial 3, 3) by decide +kernel) (Nat.le_of_ble_eq_true rfl) (Nat.le_of_ble_eq_true rfl) ?_
  refine W.eq (g2 := F0 m 4 ls []) rfl ?_
  refine lv_aload_n hx hb (pc := 4) (k := 0) (show decode cX6_init 4 = .ok (.aload_n 0, 1) by decide +kernel) rfl (lv_at hl 0 rfl) ?_
  refine lv_iconst hx hb (pc := 5) (n := 0) (v := 0) (show decode cX6_init 5 = .ok (.iconst 0, 1) by decide +kernel) (by decide) ?_
  refine va_put (D := D) (ci := 6) (v := .int 0) (ty := .int) (C := RX6) (T := TX6) (N := 4) hx hb hts (gCls_in 6 _ rfl) tyX6 tyX6_ok nmX6 hown hK hP hD hS 0 rfl rfl 0 (by decide) (hts _ (gWd_UW (w := 221) (by decide +kernel))) (fun _ h9 => h9) rfl (by decide +kernel) rfl rfl (Nat.le_of_ble_eq_true rfl) (show decode cX6_init 6 = .ok (.putfield 9, 3) by decide +kernel) (fun H locs hP hD hS => ?_)
  have hP : va_P D vwCl ((h0, .inr (6, [.int 0, .null, .null, .null])) :: ([])) H := hP
  have hD : va_D A ((h0, .inr (6, [.int 0, .null, .null, .null])) :: ([])) := hD
  refine lv_aload_n hx hb (pc := 9) (k := 0) (show decode cX6_init 9 = .ok (.aload_n 0, 1) by decide +kernel) rfl (lv_at hl 0 rfl) ?_
  refine lv_bipush hx hb (pc := 10) (n := 6) (v := 6) (show decode cX6_init 10 = .ok (.bipush 6, 2) by decide +kernel) (by decide) ?_
  refine g_newI (N := 6) hx hb (hts _ gI_words.1) hK hP hD hS hA (by decide) rfl (Nat.le_of_ble_eq_true rfl) (Nat.le_of_ble_eq_true rfl) (Nat.le_of_ble_eq_true rfl) (show decode cX6_init 12 = .ok (.newarray .int, 2) by decide +kernel) (fun q1 H hP hD hS => ?_)
  have hP : va_P D vwCl ((h0, .inr (6, [.int 0, .null, .null, .null])) :: ([] ++ [(q1, .inl (cA 0, 6, .inl (fun _ => 0)))])) H := hP
  have hD : va_D A ((h0, .inr (6, [.int 0, .null, .null, .null])) :: ([] ++ [(q1, .inl (cA 0, 6, .inl (fun _ => 0)))])) := hD
  generalize hch2 : ([] ++ [(q1, .inl (cA 0, 6, .inl (fun _ => 0)))] : va_W) = ch2 at hP hD
  refine va_putF (D := D) (ci := 6) (v := .ref q1) (ty := .array .int) (C := RX6) (T := TX6) (N := 4) hx hb hts (gCls_in 6 _ rfl) tyX6 tyX6_ok nmX6 hown hK hP hD hS 0 rfl rfl 1 (by decide) (hts _ (gWd_UW (w := 223) (by decide +kernel))) (fun _ h9 => h9) rfl hin rfl (by decide +kernel) rfl rfl (Nat.le_of_ble_eq_true rfl) (show decode cX6_init 14 = .ok (.putfield 15, 3) by decide +kernel) (fun H locs hP hD hS => ?_)
  have hP : va_P D vwCl ((h0, .inr (6, [.int 0, .ref q1, .null, .null])) :: (ch2)) H := hP
  have hD : va_D A ((h0, .inr (6, [.int 0, .ref q1, .null, .null])) :: (ch2)) := hD
  refine lv_aload_n hx hb (pc := 17) (k := 0) (show decode cX6_init 17 = .ok (.aload_n 0, 1) by decide +kernel) rfl (lv_at hl 0 rfl) ?_
  refine lv_bipush hx hb (pc := 18) (n := 6) (v := 6) (show decode cX6_init 18 = .ok (.bipush 6, 2) by decide +kernel) (by decide) ?_
  refine g_newI (N := 6) hx hb (hts _ gI_words.1) hK hP hD hS hA (by decide) rfl (Nat.le_of_ble_eq_true rfl) (Nat.le_of_ble_eq_true rfl) (Nat.le_of_ble_eq_true rfl) (show decode cX6_init 20 = .ok (.newarray .int, 2) by decide +kernel) (fun q3 H hP hD hS => ?_)
  have hP : va_P D vwCl ((h0, .inr (6, [.int 0, .ref q1, .null, .null])) :: (ch2 ++ [(q3, .inl (cA 0, 6, .inl (fun _ => 0)))])) H := hP
  have hD : va_D A ((h0, .inr (6, [.int 0, .ref q1, .null, .null])) :: (ch2 ++ [(q3, .inl (cA 0, 6, .inl (fun _ => 0)))])) := hD
  generalize hch4 : (ch2 ++ [(q3, .inl (cA 0, 6, .inl (fun _ => 0)))] : va_W) = ch4 at hP hD
  refine va_putF (D := D) (ci := 6) (v := .ref q3) (ty := .array .int) (C := RX6) (T := TX6) (N := 4) hx hb hts (gCls_in 6 _ rfl) tyX6 tyX6_ok nmX6 hown hK hP hD hS 0 rfl rfl 2 (by decide) (hts _ (gWd_UW (w := 224) (by decide +kernel))) (fun _ h9 => h9) rfl hin rfl (by decide +kernel) rfl rfl (Nat.le_of_ble_eq_true rfl) (show decode cX6_init 22 = .ok (.putfield 19, 3) by decide +kernel) (fun H locs hP hD hS => ?_)
  have hP : va_P D vwCl ((h0, .inr (6, [.int 0, .ref q1, .ref q3, .null])) :: (ch4)) H := hP
  have hD : va_D A ((h0, .inr (6, [.int 0, .ref q1, .ref q3, .null])) :: (ch4)) := hD
  refine lv_aload_n hx hb (pc := 25) (k := 0) (show decode cX6_init 25 = .ok (.aload_n 0, 1) by decide +kernel) rfl (lv_at hl 0 rfl) ?_
  refine lv_bipush hx hb (pc := 26) (n := 6) (v := 6) (show decode cX6_init 26 = .ok (.bipush 6, 2) by decide +kernel) (by decide) ?_
  refine g_newI (N := 6) hx hb (hts _ gI_words.1) hK hP hD hS hA (by decide) rfl (Nat.le_of_ble_eq_true rfl) (Nat.le_of_ble_eq_true rfl) (Nat.le_of_ble_eq_true rfl) (show decode cX6_init 28 = .ok (.newarray .int, 2) by decide +kernel) (fun q5 H hP hD hS => ?_)
  have hP : va_P D vwCl ((h0, .inr (6, [.int 0, .ref q1, .ref q3, .null])) :: (ch4 ++ [(q5, .inl (cA 0, 6, .inl (fun _ => 0)))])) H := hP
  have hD : va_D A ((h0, .inr (6, [.int 0, .ref q1, .ref q3, .null])) :: (ch4 ++ [(q5, .inl (cA 0, 6, .inl (fun _ => 0)))])) := hD
  generalize hch6 : (ch4 ++ [(q5, .inl (cA 0, 6, .inl (fun _ => 0)))] : va_W) = ch6 at hP hD
  refine va_putF (D := D) (ci := 6) (v := .ref q5) (ty := .array .int) (C := RX6) (T := TX6) (N := 4) hx hb hts (gCls_in 6 _ rfl) tyX6 tyX6_ok nmX6 hown hK hP hD hS 0 rfl rfl 3 (by decide) (hts _ (gWd_UW (w := 225) (by decide +kernel))) (fun _ h9 => h9) rfl hin rfl (by decide +kernel) rfl rfl (Nat.le_of_ble_eq_true rfl) (show decode cX6_init 30 = .ok (.putfield 22, 3) by decide +kernel) (fun H locs hP hD hS => ?_)
  have hP : va_P D vwCl ((h0, .inr (6, [.int 0, .ref q1, .ref q3, .ref q5])) :: (ch6)) H := hP
  have hD : va_D A ((h0, .inr (6, [.int 0, .ref q1, .ref q3, .ref q5])) :: (ch6)) := hD
  refine W.widen (k := 3) (n := 18) (Nat.le_of_ble_eq_true rfl) (Nat.le_of_ble_eq_true rfl) ?_
  subst hch6
  subst hch4
  subst hch2
  exact W.vret hx hb hr (fun t ht hW => ⟨⟨gAd [q1, q3, q5], rfl, trivial, by rw [ht]; exact hP, va_K.moved hW.alike hK, hD⟩, hS.F ht⟩) hS.2.2 (show decode cX6_init 33 = .ok (.return_, 1) by decide +kernel) hlocks
def gw_X3_init (cA : Nat → ClassId) (h0 : Nat) (u : Nat → Nat) : va_W := [(h0, .inr (3, [.int 0, .ref (u 1), .ref (u 2), .ref (u 3), .ref (u 4), .ref (u 5)])), ((u 1), .inl (cA 0, 49, .inl (fun _ => 0))), ((u 2), .inl (cA 0, 7, .inl (fun _ => 0))), ((u 3), .inl (cA 0, 128, .inl (fun _ => 0))), ((u 4), .inl (cA 0, 128, .inl (fun _ => 0))), ((u 5), .inl (cA 0, 7, .inl (fun _ => 0)))]
set_option maxHeartbeats 8000000 in
set_option maxRecDepth 100000 in
theorem gi_X3_init (l : Launch) (cA : Nat → ClassId) (D : va_G) : gInit l cA D yX3_init cX3_init 1 1 5 319 3 [.int 0, .null, .null, .null, .null, .null] (gw_X3_init cA) := by
  intro h0 sz
  refine Met.ofW (cc := cX3_init) (maxL := 1) (ret := none) (by decide +kernel) rfl ?_
  intro p e s m args below meth c s₁ B hml hv
  obtain ⟨rfl, hsz, hP, hK, hD0, hO1, hO0⟩ := hv
  have hx := B.exec
  have hb := B.bytes
  have hr := B.returns
  have hts : ∀ w ∈ gUW, w.before _ s = true := fun w hw => atoms_spec (ws := .code yX3_init cX3_init 1 none :: gUW) B.pre w (List.mem_cons_of_mem _ hw)
  have hown : s.vm.findClass RX3 = some m.cls := findClass_of_methodNamed B.named
  have hlocks := B.notSynchronized
  have hin : meth.name = "<init>" := (name_of_methodNamed B.named B.method).1
  subst hsz
  have hD := hD0.self (sz := s.heap.size)
  generalize hAe : va_A [(h0, .inr (3, [.int 0, .null, .null, .null, .null, .null]))] s.heap.size = A at hD ⊢
  have hA : ∀ q : Nat, s.heap.size ≤ q → A q := fun q h => by rw [← hAe]; exact Or.inr h
  have hS : va_S A s.heap s.heap [] := va_S.rf
  have hl := lv_entry ([.ref h0]) (n := 1) (Nat.le_of_ble_eq_true rfl)
  rw [lg_entry_eq]
  generalize (lg_sl ([.ref h0]) ++ List.replicate (1 - (lg_sl ([.ref h0])).length) Slot.unset).toArray = ls at hl ⊢
  have hl : lv_has ls 1 [(0, .ref h0)] := hl
  refine lv_aload_n hx hb (pc := 0) (k := 0) (show decode cX3_init 0 = .ok (.aload_n 0, 1) by decide +kernel) rfl (lv_at hl 0 rfl) ?_
  refine W.objInit hx hb hown (hts _ (gWd_UW (w := 241) (by decide +kernel))) (hts _ (gWd_UW (w := 79) (by decide +kernel))) (hts _ (gWd_UW (w := 80) (by decide +kernel))) rfl (by rw [hml]; exact hl.1) rfl (show decode cX3_init 1 = .ok (.invokespecial 3, 3) by decide +kernel) (Nat.le_of_ble_eq_true rfl) (Nat.le_of_ble_eq_true rfl) ?_
  refine W.eq (g2 := F0 m 4 ls []) rfl ?_
  refine lv_aload_n hx hb (pc := 4) (k := 0) (show decode cX3_init 4 = .ok (.aload_n 0, 1) by decide +kernel) rfl (lv_at hl 0 rfl) ?_
  refine lv_iconst hx hb (pc := 5) (n := 0) (v := 0) (show decode cX3_init 5 = .ok (.iconst 0, 1) by decide +kernel) (by decide) ?_
  refine va_put (D := D) (ci := 3) (v := .int 0) (ty := .int) (C := RX3) (T := TX3) (N := 6) hx hb hts (gCls_in 3 _ rfl) tyX3 tyX3_ok nmX3 hown hK hP hD hS 0 rfl rfl 0 (by decide) (hts _ (gWd_UW (w := 242) (by decide +kernel))) (fun _ h9 => h9) rfl (by decide +kernel) rfl rfl (Nat.le_of_ble_eq_true rfl) (show decode cX3_init 6 = .ok (.putfield 9, 3) by decide +kernel) (fun H locs hP hD hS => ?_)
  have hP : va_P D vwCl ((h0, .inr (3, [.int 0, .null, .null, .null, .null, .null])) :: ([])) H := hP
  have hD : va_D A ((h0, .inr (3, [.int 0, .null, .null, .null, .null, .null])) :: ([])) := hD
  refine lv_aload_n hx hb (pc := 9) (k := 0) (show decode cX3_init 9 = .ok (.aload_n 0, 1) by decide +kernel) rfl (lv_at hl 0 rfl) ?_
  refine lv_bipush hx hb (pc := 10) (n := 49) (v := 49) (show decode cX3_init 10 = .ok (.bipush 49, 2) by decide +kernel) (by decide) ?_
  refine g_newI (N := 49) hx hb (hts _ gI_words.1) hK hP hD hS hA (by decide) rfl (Nat.le_of_ble_eq_true rfl) (Nat.le_of_ble_eq_true rfl) (Nat.le_of_ble_eq_true rfl) (show decode cX3_init 12 = .ok (.newarray .int, 2) by decide +kernel) (fun q1 H hP hD hS => ?_)
  have hP : va_P D vwCl ((h0, .inr (3, [.int 0, .null, .null, .null, .null, .null])) :: ([] ++ [(q1, .inl (cA 0, 49, .inl (fun _ => 0)))])) H := hP
  have hD : va_D A ((h0, .inr (3, [.int 0, .null, .null, .null, .null, .null])) :: ([] ++ [(q1, .inl (cA 0, 49, .inl (fun _ => 0)))])) := hD
  generalize hch2 : ([] ++ [(q1, .inl (cA 0, 49, .inl (fun _ => 0)))] : va_W) = ch2 at hP hD
  refine va_putF (D := D) (ci := 3) (v := .ref q1) (ty := .array .int) (C := RX3) (T := TX3) (N := 6) hx hb hts (gCls_in 3 _ rfl) tyX3 tyX3_ok nmX3 hown hK hP hD hS 0 rfl rfl 1 (by decide) (hts _ (gWd_UW (w := 243) (by decide +kernel))) (fun _ h9 => h9) rfl hin rfl (by decide +kernel) rfl rfl (Nat.le_of_ble_eq_true rfl) (show decode cX3_init 14 = .ok (.putfield 15, 3) by decide +kernel) (fun H locs hP hD hS => ?_)
  have hP : va_P D vwCl ((h0, .inr (3, [.int 0, .ref q1, .null, .null, .null, .null])) :: (ch2)) H := hP
  have hD : va_D A ((h0, .inr (3, [.int 0, .ref q1, .null, .null, .null, .null])) :: (ch2)) := hD
  refine lv_aload_n hx hb (pc := 17) (k := 0) (show decode cX3_init 17 = .ok (.aload_n 0, 1) by decide +kernel) rfl (lv_at hl 0 rfl) ?_
  refine lv_bipush hx hb (pc := 18) (n := 7) (v := 7) (show decode cX3_init 18 = .ok (.bipush 7, 2) by decide +kernel) (by decide) ?_
  refine g_newI (N := 7) hx hb (hts _ gI_words.1) hK hP hD hS hA (by decide) rfl (Nat.le_of_ble_eq_true rfl) (Nat.le_of_ble_eq_true rfl) (Nat.le_of_ble_eq_true rfl) (show decode cX3_init 20 = .ok (.newarray .int, 2) by decide +kernel) (fun q3 H hP hD hS => ?_)
  have hP : va_P D vwCl ((h0, .inr (3, [.int 0, .ref q1, .null, .null, .null, .null])) :: (ch2 ++ [(q3, .inl (cA 0, 7, .inl (fun _ => 0)))])) H := hP
  have hD : va_D A ((h0, .inr (3, [.int 0, .ref q1, .null, .null, .null, .null])) :: (ch2 ++ [(q3, .inl (cA 0, 7, .inl (fun _ => 0)))])) := hD
  generalize hch4 : (ch2 ++ [(q3, .inl (cA 0, 7, .inl (fun _ => 0)))] : va_W) = ch4 at hP hD
  refine va_putF (D := D) (ci := 3) (v := .ref q3) (ty := .array .int) (C := RX3) (T := TX3) (N := 6) hx hb hts (gCls_in 3 _ rfl) tyX3 tyX3_ok nmX3 hown hK hP hD hS 0 rfl rfl 2 (by decide) (hts _ (gWd_UW (w := 244) (by decide +kernel))) (fun _ h9 => h9) rfl hin rfl (by decide +kernel) rfl rfl (Nat.le_of_ble_eq_true rfl) (show decode cX3_init 22 = .ok (.putfield 19, 3) by decide +kernel) (fun H locs hP hD hS => ?_)
  have hP : va_P D vwCl ((h0, .inr (3, [.int 0, .ref q1, .ref q3, .null, .null, .null])) :: (ch4)) H := hP
  have hD : va_D A ((h0, .inr (3, [.int 0, .ref q1, .ref q3, .null, .null, .null])) :: (ch4)) := hD
  refine lv_aload_n hx hb (pc := 25) (k := 0) (show decode cX3_init 25 = .ok (.aload_n 0, 1) by decide +kernel) rfl (lv_at hl 0 rfl) ?_
  refine lv_sipush hx hb (pc := 26) (n := 128) (v := 128) (show decode cX3_init 26 = .ok (.sipush 128, 3) by decide +kernel) (by decide) ?_
  refine g_newI (N := 128) hx hb (hts _ gI_words.1) hK hP hD hS hA (by decide) rfl (Nat.le_of_ble_eq_true rfl) (Nat.le_of_ble_eq_true rfl) (Nat.le_of_ble_eq_true rfl) (show decode cX3_init 29 = .ok (.newarray .int, 2) by decide +kernel) (fun q5 H hP hD hS => ?_)
  have hP : va_P D vwCl ((h0, .inr (3, [.int 0, .ref q1, .ref q3, .null, .null, .null])) :: (ch4 ++ [(q5, .inl (cA 0, 128, .inl (fun _ => 0)))])) H := hP
  have hD : va_D A ((h0, .inr (3, [.int 0, .ref q1, .ref q3, .null, .null, .null])) :: (ch4 ++ [(q5, .inl (cA 0, 128, .inl (fun _ => 0)))])) := hD
  generalize hch6 : (ch4 ++ [(q5, .inl (cA 0, 128, .inl (fun _ => 0)))] : va_W) = ch6 at hP hD
  refine va_putF (D := D) (ci := 3) (v := .ref q5) (ty := .array .int) (C := RX3) (T := TX3) (N := 6) hx hb hts (gCls_in 3 _ rfl) tyX3 tyX3_ok nmX3 hown hK hP hD hS 0 rfl rfl 3 (by decide) (hts _ (gWd_UW (w := 245) (by decide +kernel))) (fun _ h9 => h9) rfl hin rfl (by decide +kernel) rfl rfl (Nat.le_of_ble_eq_true rfl) (show decode cX3_init 31 = .ok (.putfield 22, 3) by decide +kernel) (fun H locs hP hD hS => ?_)
  have hP : va_P D vwCl ((h0, .inr (3, [.int 0, .ref q1, .ref q3, .ref q5, .null, .null])) :: (ch6)) H := hP
  have hD : va_D A ((h0, .inr (3, [.int 0, .ref q1, .ref q3, .ref q5, .null, .null])) :: (ch6)) := hD
  refine lv_aload_n hx hb (pc := 34) (k := 0) (show decode cX3_init 34 = .ok (.aload_n 0, 1) by decide +kernel) rfl (lv_at hl 0 rfl) ?_
  refine lv_sipush hx hb (pc := 35) (n := 128) (v := 128) (show decode cX3_init 35 = .ok (.sipush 128, 3) by decide +kernel) (by decide) ?_
  refine g_newI (N := 128) hx hb (hts _ gI_words.1) hK hP hD hS hA (by decide) rfl (Nat.le_of_ble_eq_true rfl) (Nat.le_of_ble_eq_true rfl) (Nat.le_of_ble_eq_true rfl) (show decode cX3_init 38 = .ok (.newarray .int, 2) by decide +kernel) (fun q7 H hP hD hS => ?_)
  have hP : va_P D vwCl ((h0, .inr (3, [.int 0, .ref q1, .ref q3, .ref q5, .null, .null])) :: (ch6 ++ [(q7, .inl (cA 0, 128, .inl (fun _ => 0)))])) H := hP
  have hD : va_D A ((h0, .inr (3, [.int 0, .ref q1, .ref q3, .ref q5, .null, .null])) :: (ch6 ++ [(q7, .inl (cA 0, 128, .inl (fun _ => 0)))])) := hD
  generalize hch8 : (ch6 ++ [(q7, .inl (cA 0, 128, .inl (fun _ => 0)))] : va_W) = ch8 at hP hD
  refine va_putF (D := D) (ci := 3) (v := .ref q7) (ty := .array .int) (C := RX3) (T := TX3) (N := 6) hx hb hts (gCls_in 3 _ rfl) tyX3 tyX3_ok nmX3 hown hK hP hD hS 0 rfl rfl 4 (by decide) (hts _ (gWd_UW (w := 246) (by decide +kernel))) (fun _ h9 => h9) rfl hin rfl (by decide +kernel) rfl rfl (Nat.le_of_ble_eq_true rfl) (show decode cX3_init 40 = .ok (.putfield 25, 3) by decide +kernel) (fun H locs hP hD hS => ?_)
  have hP : va_P D vwCl ((h0, .inr (3, [.int 0, .ref q1, .ref q3, .ref q5, .ref q7, .null])) :: (ch8)) H := hP
  have hD : va_D A ((h0, .inr (3, [.int 0, .ref q1, .ref q3, .ref q5, .ref q7, .null])) :: (ch8)) := hD
  refine lv_aload_n hx hb (pc := 43) (k := 0) (show decode cX3_init 43 = .ok (.aload_n 0, 1) by decide +kernel) rfl (lv_at hl 0 rfl) ?_
  refine lv_bipush hx hb (pc := 44) (n := 7) (v := 7) (show decode cX3_init 44 = .ok (.bipush 7, 2) by decide +kernel) (by decide) ?_
  refine g_newI (N := 7) hx hb (hts _ gI_words.1) hK hP hD hS hA (by decide) rfl (Nat.le_of_ble_eq_true rfl) (Nat.le_of_ble_eq_true rfl) (Nat.le_of_ble_eq_true rfl) (show decode cX3_init 46 = .ok (.newarray .int, 2) by decide +kernel) (fun q9 H hP hD hS => ?_)
  have hP : va_P D vwCl ((h0, .inr (3, [.int 0, .ref q1, .ref q3, .ref q5, .ref q7, .null])) :: (ch8 ++ [(q9, .inl (cA 0, 7, .inl (fun _ => 0)))])) H := hP
  have hD : va_D A ((h0, .inr (3, [.int 0, .ref q1, .ref q3, .ref q5, .ref q7, .null])) :: (ch8 ++ [(q9, .inl (cA 0, 7, .inl (fun _ => 0)))])) := hD
  generalize hch10 : (ch8 ++ [(q9, .inl (cA 0, 7, .inl (fun _ => 0)))] : va_W) = ch10 at hP hD
  refine va_putF (D := D) (ci := 3) (v := .ref q9) (ty := .array .int) (C := RX3) (T := TX3) (N := 6) hx hb hts (gCls_in 3 _ rfl) tyX3 tyX3_ok nmX3 hown hK hP hD hS 0 rfl rfl 5 (by decide) (hts _ (gWd_UW (w := 247) (by decide +kernel))) (fun _ h9 => h9) rfl hin rfl (by decide +kernel) rfl rfl (Nat.le_of_ble_eq_true rfl) (show decode cX3_init 48 = .ok (.putfield 28, 3) by decide +kernel) (fun H locs hP hD hS => ?_)
  have hP : va_P D vwCl ((h0, .inr (3, [.int 0, .ref q1, .ref q3, .ref q5, .ref q7, .ref q9])) :: (ch10)) H := hP
  have hD : va_D A ((h0, .inr (3, [.int 0, .ref q1, .ref q3, .ref q5, .ref q7, .ref q9])) :: (ch10)) := hD
  refine W.widen (k := 5) (n := 319) (Nat.le_of_ble_eq_true rfl) (Nat.le_of_ble_eq_true rfl) ?_
  subst hch10
  subst hch8
  subst hch6
  subst hch4
  subst hch2
  exact W.vret hx hb hr (fun t ht hW => ⟨⟨gAd [q1, q3, q5, q7, q9], rfl, trivial, by rw [ht]; exact hP, va_K.moved hW.alike hK, hD⟩, hS.F ht⟩) hS.2.2 (show decode cX3_init 51 = .ok (.return_, 1) by decide +kernel) hlocks
def gw_X7_init (cA : Nat → ClassId) (h0 : Nat) (u : Nat → Nat) : va_W := [(h0, .inr (7, [.ref (u 1), .int 0, .int 0, .ref (u 2), .ref (u 3), .ref (u 4), .int 0, .int 0, .int 0, .int 0, .int 3])), ((u 1), .inl (cA 0, 200, .inl (fun _ => 0))), ((u 2), .inl (cA 0, 20, .inl (fun _ => 0))), ((u 3), .inl (cA 0, 20, .inl (fun _ => 0))), ((u 4), .inl (cA 0, 60, .inl (fun _ => 0)))]
set_option maxHeartbeats 8000000 in
set_option maxRecDepth 100000 in
theorem gi_X7_init (l : Launch) (cA : Nat → ClassId) (D : va_G) : gInit l cA D yX7_init cX7_init 1 1 4 300 7 [.null, .int 0, .int 0, .null, .null, .null, .int 0, .int 0, .int 0, .int 0, .int 0] (gw_X7_init cA) := by
  intro h0 sz
  refine Met.ofW (cc := cX7_init) (maxL := 1) (ret := none) (by decide +kernel) rfl ?_
  intro p e s m args below meth c s₁ B hml hv
  obtain ⟨rfl, hsz, hP, hK, hD0, hO1, hO0⟩ := hv
  have hx := B.exec
  have hb := B.bytes
  have hr := B.returns
  have hts : ∀ w ∈ gUW, w.before _ s = true := fun w hw => atoms_spec (ws := .code yX7_init cX7_init 1 none :: gUW) B.pre w (List.mem_cons_of_mem _ hw)
  have hown : s.vm.findClass RX7 = some m.cls := findClass_of_methodNamed B.named
  have hlocks := B.notSynchronized
  have hin : meth.name = "<init>" := (name_of_methodNamed B.named B.method).1
  subst hsz
  have hD := hD0.self (sz := s.heap.size)
  generalize hAe : va_A [(h0, .inr (7, [.null, .int 0, .int 0, .null, .null, .null, .int 0, .int 0, .int 0, .int 0, .int 0]))] s.heap.size = A at hD ⊢
  have hA : ∀ q : Nat, s.heap.size ≤ q → A q := fun q h => by rw [← hAe]; exact Or.inr h
  have hS : va_S A s.heap s.heap [] := va_S.rf
  have hl := lv_entry ([.ref h0]) (n := 1) (Nat.le_of_ble_eq_true rfl)
  rw [lg_entry_eq]
  generalize (lg_sl ([.ref h0]) ++ List.replicate (1 - (lg_sl ([.ref h0])).length) Slot.unset).toArray = ls at hl ⊢
  have hl : lv_has ls 1 [(0, .ref h0)] := hl
  refine lv_aload_n hx hb (pc := 0) (k := 0) (show decode cX7_init 0 = .ok (.aload_n 0, 1) by decide +kernel) rfl (lv_at hl 0 rfl) ?_
  refine W.objInit hx hb hown (hts _ (gWd_UW (w := 86) (by decide +kernel))) (hts _ (gWd_UW (w := 79) (by decide +kernel))) (hts _ (gWd_UW (w := 80) (by decide +kernel))) rfl (by rw [hml]; exact hl.1) rfl (show decode cX7_init 1 = .ok (.invokespecial 3, 3) by decide +kernel) (Nat.le_of_ble_eq_true rfl) (Nat.le_of_ble_eq_true rfl) ?_
  refine W.eq (g2 := F0 m 4 ls []) rfl ?_
  refine lv_aload_n hx hb (pc := 4) (k := 0) (show decode cX7_init 4 = .ok (.aload_n 0, 1) by decide +kernel) rfl (lv_at hl 0 rfl) ?_
  refine lv_sipush hx hb (pc := 5) (n := 200) (v := 200) (show decode cX7_init 5 = .ok (.sipush 200, 3) by decide +kernel) (by decide) ?_
  refine g_newI (N := 200) hx hb (hts _ gI_words.1) hK hP hD hS hA (by decide) rfl (Nat.le_of_ble_eq_true rfl) (Nat.le_of_ble_eq_true rfl) (Nat.le_of_ble_eq_true rfl) (show decode cX7_init 8 = .ok (.newarray .int, 2) by decide +kernel) (fun q1 H hP hD hS => ?_)
  have hP : va_P D vwCl ((h0, .inr (7, [.null, .int 0, .int 0, .null, .null, .null, .int 0, .int 0, .int 0, .int 0, .int 0])) :: ([] ++ [(q1, .inl (cA 0, 200, .inl (fun _ => 0)))])) H := hP
  have hD : va_D A ((h0, .inr (7, [.null, .int 0, .int 0, .null, .null, .null, .int 0, .int 0, .int 0, .int 0, .int 0])) :: ([] ++ [(q1, .inl (cA 0, 200, .inl (fun _ => 0)))])) := hD
  generalize hch2 : ([] ++ [(q1, .inl (cA 0, 200, .inl (fun _ => 0)))] : va_W) = ch2 at hP hD
  refine va_putF (D := D) (ci := 7) (v := .ref q1) (ty := .array .int) (C := RX7) (T := TX7) (N := 11) hx hb hts (gCls_in 7 _ rfl) tyX7 tyX7_ok nmX7 hown hK hP hD hS 0 rfl rfl 0 (by decide) (hts _ (gWd_UW (w := 87) (by decide +kernel))) (fun _ h9 => h9) rfl hin rfl (by decide +kernel) rfl rfl (Nat.le_of_ble_eq_true rfl) (show decode cX7_init 10 = .ok (.putfield 9, 3) by decide +kernel) (fun H locs hP hD hS => ?_)
  have hP : va_P D vwCl ((h0, .inr (7, [.ref q1, .int 0, .int 0, .null, .null, .null, .int 0, .int 0, .int 0, .int 0, .int 0])) :: (ch2)) H := hP
  have hD : va_D A ((h0, .inr (7, [.ref q1, .int 0, .int 0, .null, .null, .null, .int 0, .int 0, .int 0, .int 0, .int 0])) :: (ch2)) := hD
  refine lv_aload_n hx hb (pc := 13) (k := 0) (show decode cX7_init 13 = .ok (.aload_n 0, 1) by decide +kernel) rfl (lv_at hl 0 rfl) ?_
  refine lv_iconst hx hb (pc := 14) (n := 0) (v := 0) (show decode cX7_init 14 = .ok (.iconst 0, 1) by decide +kernel) (by decide) ?_
  refine va_put (D := D) (ci := 7) (v := .int 0) (ty := .int) (C := RX7) (T := TX7) (N := 11) hx hb hts (gCls_in 7 _ rfl) tyX7 tyX7_ok nmX7 hown hK hP hD hS 0 rfl rfl 1 (by decide) (hts _ (gWd_UW (w := 88) (by decide +kernel))) (fun _ h9 => h9) rfl (by decide +kernel) rfl rfl (Nat.le_of_ble_eq_true rfl) (show decode cX7_init 15 = .ok (.putfield 15, 3) by decide +kernel) (fun H locs hP hD hS => ?_)
  have hP : va_P D vwCl ((h0, .inr (7, [.ref q1, .int 0, .int 0, .null, .null, .null, .int 0, .int 0, .int 0, .int 0, .int 0])) :: (ch2)) H := hP
  have hD : va_D A ((h0, .inr (7, [.ref q1, .int 0, .int 0, .null, .null, .null, .int 0, .int 0, .int 0, .int 0, .int 0])) :: (ch2)) := hD
  refine lv_aload_n hx hb (pc := 18) (k := 0) (show decode cX7_init 18 = .ok (.aload_n 0, 1) by decide +kernel) rfl (lv_at hl 0 rfl) ?_
  refine lv_iconst hx hb (pc := 19) (n := 0) (v := 0) (show decode cX7_init 19 = .ok (.iconst 0, 1) by decide +kernel) (by decide) ?_
  refine va_put (D := D) (ci := 7) (v := .int 0) (ty := .int) (C := RX7) (T := TX7) (N := 11) hx hb hts (gCls_in 7 _ rfl) tyX7 tyX7_ok nmX7 hown hK hP hD hS 0 rfl rfl 2 (by decide) (hts _ (gWd_UW (w := 90) (by decide +kernel))) (fun _ h9 => h9) rfl (by decide +kernel) rfl rfl (Nat.le_of_ble_eq_true rfl) (show decode cX7_init 20 = .ok (.putfield 19, 3) by decide +kernel) (fun H locs hP hD hS => ?_)
  have hP : va_P D vwCl ((h0, .inr (7, [.ref q1, .int 0, .int 0, .null, .null, .null, .int 0, .int 0, .int 0, .int 0, .int 0])) :: (ch2)) H := hP
  have hD : va_D A ((h0, .inr (7, [.ref q1, .int 0, .int 0, .null, .null, .null, .int 0, .int 0, .int 0, .int 0, .int 0])) :: (ch2)) := hD
  refine lv_aload_n hx hb (pc := 23) (k := 0) (show decode cX7_init 23 = .ok (.aload_n 0, 1) by decide +kernel) rfl (lv_at hl 0 rfl) ?_
  refine lv_bipush hx hb (pc := 24) (n := 20) (v := 20) (show decode cX7_init 24 = .ok (.bipush 20, 2) by decide +kernel) (by decide) ?_
  refine g_newI (N := 20) hx hb (hts _ gI_words.1) hK hP hD hS hA (by decide) rfl (Nat.le_of_ble_eq_true rfl) (Nat.le_of_ble_eq_true rfl) (Nat.le_of_ble_eq_true rfl) (show decode cX7_init 26 = .ok (.newarray .int, 2) by decide +kernel) (fun q3 H hP hD hS => ?_)
  have hP : va_P D vwCl ((h0, .inr (7, [.ref q1, .int 0, .int 0, .null, .null, .null, .int 0, .int 0, .int 0, .int 0, .int 0])) :: (ch2 ++ [(q3, .inl (cA 0, 20, .inl (fun _ => 0)))])) H := hP
  have hD : va_D A ((h0, .inr (7, [.ref q1, .int 0, .int 0, .null, .null, .null, .int 0, .int 0, .int 0, .int 0, .int 0])) :: (ch2 ++ [(q3, .inl (cA 0, 20, .inl (fun _ => 0)))])) := hD
  generalize hch4 : (ch2 ++ [(q3, .inl (cA 0, 20, .inl (fun _ => 0)))] : va_W) = ch4 at hP hD
  refine va_putF (D := D) (ci := 7) (v := .ref q3) (ty := .array .int) (C := RX7) (T := TX7) (N := 11) hx hb hts (gCls_in 7 _ rfl) tyX7 tyX7_ok nmX7 hown hK hP hD hS 0 rfl rfl 3 (by decide) (hts _ (gWd_UW (w := 92) (by decide +kernel))) (fun _ h9 => h9) rfl hin rfl (by decide +kernel) rfl rfl (Nat.le_of_ble_eq_true rfl) (show decode cX7_init 28 = .ok (.putfield 22, 3) by decide +kernel) (fun H locs hP hD hS => ?_)
  have hP : va_P D vwCl ((h0, .inr (7, [.ref q1, .int 0, .int 0, .ref q3, .null, .null, .int 0, .int 0, .int 0, .int 0, .int 0])) :: (ch4)) H := hP
  have hD : va_D A ((h0, .inr (7, [.ref q1, .int 0, .int 0, .ref q3, .null, .null, .int 0, .int 0, .int 0, .int 0, .int 0])) :: (ch4)) := hD
  refine lv_aload_n hx hb (pc := 31) (k := 0) (show decode cX7_init 31 = .ok (.aload_n 0, 1) by decide +kernel) rfl (lv_at hl 0 rfl) ?_
  refine lv_bipush hx hb (pc := 32) (n := 20) (v := 20) (show decode cX7_init 32 = .ok (.bipush 20, 2) by decide +kernel) (by decide) ?_
  refine g_newI (N := 20) hx hb (hts _ gI_words.1) hK hP hD hS hA (by decide) rfl (Nat.le_of_ble_eq_true rfl) (Nat.le_of_ble_eq_true rfl) (Nat.le_of_ble_eq_true rfl) (show decode cX7_init 34 = .ok (.newarray .int, 2) by decide +kernel) (fun q5 H hP hD hS => ?_)
  have hP : va_P D vwCl ((h0, .inr (7, [.ref q1, .int 0, .int 0, .ref q3, .null, .null, .int 0, .int 0, .int 0, .int 0, .int 0])) :: (ch4 ++ [(q5, .inl (cA 0, 20, .inl (fun _ => 0)))])) H := hP
  have hD : va_D A ((h0, .inr (7, [.ref q1, .int 0, .int 0, .ref q3, .null, .null, .int 0, .int 0, .int 0, .int 0, .int 0])) :: (ch4 ++ [(q5, .inl (cA 0, 20, .inl (fun _ => 0)))])) := hD
  generalize hch6 : (ch4 ++ [(q5, .inl (cA 0, 20, .inl (fun _ => 0)))] : va_W) = ch6 at hP hD
  refine va_putF (D := D) (ci := 7) (v := .ref q5) (ty := .array .int) (C := RX7) (T := TX7) (N := 11) hx hb hts (gCls_in 7 _ rfl) tyX7 tyX7_ok nmX7 hown hK hP hD hS 0 rfl rfl 4 (by decide) (hts _ (gWd_UW (w := 94) (by decide +kernel))) (fun _ h9 => h9) rfl hin rfl (by decide +kernel) rfl rfl (Nat.le_of_ble_eq_true rfl) (show decode cX7_init 36 = .ok (.putfield 25, 3) by decide +kernel) (fun H locs hP hD hS => ?_)
  have hP : va_P D vwCl ((h0, .inr (7, [.ref q1, .int 0, .int 0, .ref q3, .ref q5, .null, .int 0, .int 0, .int 0, .int 0, .int 0])) :: (ch6)) H := hP
  have hD : va_D A ((h0, .inr (7, [.ref q1, .int 0, .int 0, .ref q3, .ref q5, .null, .int 0, .int 0, .int 0, .int 0, .int 0])) :: (ch6)) := hD
  refine lv_aload_n hx hb (pc := 39) (k := 0) (show decode cX7_init 39 = .ok (.aload_n 0, 1) by decide +kernel) rfl (lv_at hl 0 rfl) ?_
  refine lv_bipush hx hb (pc := 40) (n := 60) (v := 60) (show decode cX7_init 40 = .ok (.bipush 60, 2) by decide +kernel) (by decide) ?_
  refine g_newI (N := 60) hx hb (hts _ gI_words.1) hK hP hD hS hA (by decide) rfl (Nat.le_of_ble_eq_true rfl) (Nat.le_of_ble_eq_true rfl) (Nat.le_of_ble_eq_true rfl) (show decode cX7_init 42 = .ok (.newarray .int, 2) by decide +kernel) (fun q7 H hP hD hS => ?_)
  have hP : va_P D vwCl ((h0, .inr (7, [.ref q1, .int 0, .int 0, .ref q3, .ref q5, .null, .int 0, .int 0, .int 0, .int 0, .int 0])) :: (ch6 ++ [(q7, .inl (cA 0, 60, .inl (fun _ => 0)))])) H := hP
  have hD : va_D A ((h0, .inr (7, [.ref q1, .int 0, .int 0, .ref q3, .ref q5, .null, .int 0, .int 0, .int 0, .int 0, .int 0])) :: (ch6 ++ [(q7, .inl (cA 0, 60, .inl (fun _ => 0)))])) := hD
  generalize hch8 : (ch6 ++ [(q7, .inl (cA 0, 60, .inl (fun _ => 0)))] : va_W) = ch8 at hP hD
  refine va_putF (D := D) (ci := 7) (v := .ref q7) (ty := .array .int) (C := RX7) (T := TX7) (N := 11) hx hb hts (gCls_in 7 _ rfl) tyX7 tyX7_ok nmX7 hown hK hP hD hS 0 rfl rfl 5 (by decide) (hts _ (gWd_UW (w := 96) (by decide +kernel))) (fun _ h9 => h9) rfl hin rfl (by decide +kernel) rfl rfl (Nat.le_of_ble_eq_true rfl) (show decode cX7_init 44 = .ok (.putfield 28, 3) by decide +kernel) (fun H locs hP hD hS => ?_)
  have hP : va_P D vwCl ((h0, .inr (7, [.ref q1, .int 0, .int 0, .ref q3, .ref q5, .ref q7, .int 0, .int 0, .int 0, .int 0, .int 0])) :: (ch8)) H := hP
  have hD : va_D A ((h0, .inr (7, [.ref q1, .int 0, .int 0, .ref q3, .ref q5, .ref q7, .int 0, .int 0, .int 0, .int 0, .int 0])) :: (ch8)) := hD
  refine lv_aload_n hx hb (pc := 47) (k := 0) (show decode cX7_init 47 = .ok (.aload_n 0, 1) by decide +kernel) rfl (lv_at hl 0 rfl) ?_
  refine lv_iconst hx hb (pc := 48) (n := 0) (v := 0) (show decode cX7_init 48 = .ok (.iconst 0, 1) by decide +kernel) (by decide) ?_
  refine va_put (D := D) (ci := 7) (v := .int 0) (ty := .int) (C := RX7) (T := TX7) (N := 11) hx hb hts (gCls_in 7 _ rfl) tyX7 tyX7_ok nmX7 hown hK hP hD hS 0 rfl rfl 6 (by decide) (hts _ (gWd_UW (w := 98) (by decide +kernel))) (fun _ h9 => h9) rfl (by decide +kernel) rfl rfl (Nat.le_of_ble_eq_true rfl) (show decode cX7_init 49 = .ok (.putfield 31, 3) by decide +kernel) (fun H locs hP hD hS => ?_)
  have hP : va_P D vwCl ((h0, .inr (7, [.ref q1, .int 0, .int 0, .ref q3, .ref q5, .ref q7, .int 0, .int 0, .int 0, .int 0, .int 0])) :: (ch8)) H := hP
  have hD : va_D A ((h0, .inr (7, [.ref q1, .int 0, .int 0, .ref q3, .ref q5, .ref q7, .int 0, .int 0, .int 0, .int 0, .int 0])) :: (ch8)) := hD
  refine lv_aload_n hx hb (pc := 52) (k := 0) (show decode cX7_init 52 = .ok (.aload_n 0, 1) by decide +kernel) rfl (lv_at hl 0 rfl) ?_
  refine lv_iconst hx hb (pc := 53) (n := 0) (v := 0) (show decode cX7_init 53 = .ok (.iconst 0, 1) by decide +kernel) (by decide) ?_
  refine va_put (D := D) (ci := 7) (v := .int 0) (ty := .int) (C := RX7) (T := TX7) (N := 11) hx hb hts (gCls_in 7 _ rfl) tyX7 tyX7_ok nmX7 hown hK hP hD hS 0 rfl rfl 7 (by decide) (hts _ (gWd_UW (w := 99) (by decide +kernel))) (fun _ h9 => h9) rfl (by decide +kernel) rfl rfl (Nat.le_of_ble_eq_true rfl) (show decode cX7_init 54 = .ok (.putfield 34, 3) by decide +kernel) (fun H locs hP hD hS => ?_)
  have hP : va_P D vwCl ((h0, .inr (7, [.ref q1, .int 0, .int 0, .ref q3, .ref q5, .ref q7, .int 0, .int 0, .int 0, .int 0, .int 0])) :: (ch8)) H := hP
  have hD : va_D A ((h0, .inr (7, [.ref q1, .int 0, .int 0, .ref q3, .ref q5, .ref q7, .int 0, .int 0, .int 0, .int 0, .int 0])) :: (ch8)) := hD
  refine lv_aload_n hx hb (pc := 57) (k := 0) (show decode cX7_init 57 = .ok (.aload_n 0, 1) by decide +kernel) rfl (lv_at hl 0 rfl) ?_
  refine lv_iconst hx hb (pc := 58) (n := 0) (v := 0) (show decode cX7_init 58 = .ok (.iconst 0, 1) by decide +kernel) (by decide) ?_
  refine va_put (D := D) (ci := 7) (v := .int 0) (ty := .int) (C := RX7) (T := TX7) (N := 11) hx hb hts (gCls_in 7 _ rfl) tyX7 tyX7_ok nmX7 hown hK hP hD hS 0 rfl rfl 8 (by decide) (hts _ (gWd_UW (w := 100) (by decide +kernel))) (fun _ h9 => h9) rfl (by decide +kernel) rfl rfl (Nat.le_of_ble_eq_true rfl) (show decode cX7_init 59 = .ok (.putfield 37, 3) by decide +kernel) (fun H locs hP hD hS => ?_)
  have hP : va_P D vwCl ((h0, .inr (7, [.ref q1, .int 0, .int 0, .ref q3, .ref q5, .ref q7, .int 0, .int 0, .int 0, .int 0, .int 0])) :: (ch8)) H := hP
  have hD : va_D A ((h0, .inr (7, [.ref q1, .int 0, .int 0, .ref q3, .ref q5, .ref q7, .int 0, .int 0, .int 0, .int 0, .int 0])) :: (ch8)) := hD
  refine lv_aload_n hx hb (pc := 62) (k := 0) (show decode cX7_init 62 = .ok (.aload_n 0, 1) by decide +kernel) rfl (lv_at hl 0 rfl) ?_
  refine lv_iconst hx hb (pc := 63) (n := 0) (v := 0) (show decode cX7_init 63 = .ok (.iconst 0, 1) by decide +kernel) (by decide) ?_
  refine va_put (D := D) (ci := 7) (v := .int 0) (ty := .int) (C := RX7) (T := TX7) (N := 11) hx hb hts (gCls_in 7 _ rfl) tyX7 tyX7_ok nmX7 hown hK hP hD hS 0 rfl rfl 9 (by decide) (hts _ (gWd_UW (w := 101) (by decide +kernel))) (fun _ h9 => h9) rfl (by decide +kernel) rfl rfl (Nat.le_of_ble_eq_true rfl) (show decode cX7_init 64 = .ok (.putfield 40, 3) by decide +kernel) (fun H locs hP hD hS => ?_)
  have hP : va_P D vwCl ((h0, .inr (7, [.ref q1, .int 0, .int 0, .ref q3, .ref q5, .ref q7, .int 0, .int 0, .int 0, .int 0, .int 0])) :: (ch8)) H := hP
  have hD : va_D A ((h0, .inr (7, [.ref q1, .int 0, .int 0, .ref q3, .ref q5, .ref q7, .int 0, .int 0, .int 0, .int 0, .int 0])) :: (ch8)) := hD
  refine lv_aload_n hx hb (pc := 67) (k := 0) (show decode cX7_init 67 = .ok (.aload_n 0, 1) by decide +kernel) rfl (lv_at hl 0 rfl) ?_
  refine lv_iconst hx hb (pc := 68) (n := 3) (v := 3) (show decode cX7_init 68 = .ok (.iconst 3, 1) by decide +kernel) (by decide) ?_
  refine va_put (D := D) (ci := 7) (v := .int 3) (ty := .int) (C := RX7) (T := TX7) (N := 11) hx hb hts (gCls_in 7 _ rfl) tyX7 tyX7_ok nmX7 hown hK hP hD hS 0 rfl rfl 10 (by decide) (hts _ (gWd_UW (w := 102) (by decide +kernel))) (fun _ h9 => h9) rfl (by decide +kernel) rfl rfl (Nat.le_of_ble_eq_true rfl) (show decode cX7_init 69 = .ok (.putfield 43, 3) by decide +kernel) (fun H locs hP hD hS => ?_)
  have hP : va_P D vwCl ((h0, .inr (7, [.ref q1, .int 0, .int 0, .ref q3, .ref q5, .ref q7, .int 0, .int 0, .int 0, .int 0, .int 3])) :: (ch8)) H := hP
  have hD : va_D A ((h0, .inr (7, [.ref q1, .int 0, .int 0, .ref q3, .ref q5, .ref q7, .int 0, .int 0, .int 0, .int 0, .int 3])) :: (ch8)) := hD
  refine W.widen (k := 4) (n := 300) (Nat.le_of_ble_eq_true rfl) (Nat.le_of_ble_eq_true rfl) ?_
  subst hch8
  subst hch6
  subst hch4
  subst hch2
  exact W.vret hx hb hr (fun t ht hW => ⟨⟨gAd [q1, q3, q5, q7], rfl, trivial, by rw [ht]; exact hP, va_K.moved hW.alike hK, hD⟩, hS.F ht⟩) hS.2.2 (show decode cX7_init 72 = .ok (.return_, 1) by decide +kernel) hlocks
def gw_X5_init (cA : Nat → ClassId) (h0 : Nat) (u : Nat → Nat) : va_W := [(h0, .inr (5, [.int 0, .ref (u 1), .ref (u 2), .ref (u 5)])), ((u 1), .inl (cA 0, 7, .inl (fun _ => 0))), ((u 2), .inr (1, [.int 0, .ref (u 3), .ref (u 4)])), ((u 3), .inl (cA 0, 7, .inl (fun _ => 0))), ((u 4), .inl (cA 0, 21, .inl (fun _ => 0))), ((u 5), .inr (1, [.int 0, .ref (u 6), .ref (u 7)])), ((u 6), .inl (cA 0, 7, .inl (fun _ => 0))), ((u 7), .inl (cA 0, 21, .inl (fun _ => 0)))]
set_option maxHeartbeats 8000000 in
set_option maxRecDepth 100000 in
theorem gi_X5_init (l : Launch) (cA : Nat → ClassId) (D : va_G) : gInit l cA D yX5_init cX5_init 1 2 7 69 5 [.int 0, .null, .null, .null] (gw_X5_init cA) := by
  intro h0 sz
  refine Met.ofW (cc := cX5_init) (maxL := 1) (ret := none) (by decide +kernel) rfl ?_
  intro p e s m args below meth c s₁ B hml hv
  obtain ⟨rfl, hsz, hP, hK, hD0, hO1, hO0⟩ := hv
  have hx := B.exec
  have hb := B.bytes
  have hr := B.returns
  have hts : ∀ w ∈ gUW, w.before _ s = true := fun w hw => atoms_spec (ws := .code yX5_init cX5_init 1 none :: gUW) B.pre w (List.mem_cons_of_mem _ hw)
  have hown : s.vm.findClass RX5 = some m.cls := findClass_of_methodNamed B.named
  have hlocks := B.notSynchronized
  have hin : meth.name = "<init>" := (name_of_methodNamed B.named B.method).1
  subst hsz
  have hD := hD0.self (sz := s.heap.size)
  generalize hAe : va_A [(h0, .inr (5, [.int 0, .null, .null, .null]))] s.heap.size = A at hD ⊢
  have hA : ∀ q : Nat, s.heap.size ≤ q → A q := fun q h => by rw [← hAe]; exact Or.inr h
  have hS : va_S A s.heap s.heap [] := va_S.rf
  have hl := lv_entry ([.ref h0]) (n := 1) (Nat.le_of_ble_eq_true rfl)
  rw [lg_entry_eq]
  generalize (lg_sl ([.ref h0]) ++ List.replicate (1 - (lg_sl ([.ref h0])).length) Slot.unset).toArray = ls at hl ⊢
  have hl : lv_has ls 1 [(0, .ref h0)] := hl
  refine lv_aload_n hx hb (pc := 0) (k := 0) (show decode cX5_init 0 = .ok (.aload_n 0, 1) by decide +kernel) rfl (lv_at hl 0 rfl) ?_
  refine W.objInit hx hb hown (hts _ (gWd_UW (w := 132) (by decide +kernel))) (hts _ (gWd_UW (w := 79) (by decide +kernel))) (hts _ (gWd_UW (w := 80) (by decide +kernel))) rfl (by rw [hml]; exact hl.1) rfl (show decode cX5_init 1 = .ok (.invokespecial 3, 3) by decide +kernel) (Nat.le_of_ble_eq_true rfl) (Nat.le_of_ble_eq_true rfl) ?_
  refine W.eq (g2 := F0 m 4 ls []) rfl ?_
  refine lv_aload_n hx hb (pc := 4) (k := 0) (show decode cX5_init 4 = .ok (.aload_n 0, 1) by decide +kernel) rfl (lv_at hl 0 rfl) ?_
  refine lv_iconst hx hb (pc := 5) (n := 0) (v := 0) (show decode cX5_init 5 = .ok (.iconst 0, 1) by decide +kernel) (by decide) ?_
  refine va_put (D := D) (ci := 5) (v := .int 0) (ty := .int) (C := RX5) (T := TX5) (N := 4) hx hb hts (gCls_in 5 _ rfl) tyX5 tyX5_ok nmX5 hown hK hP hD hS 0 rfl rfl 0 (by decide) (hts _ (gWd_UW (w := 153) (by decide +kernel))) (fun _ h9 => h9) rfl (by decide +kernel) rfl rfl (Nat.le_of_ble_eq_true rfl) (show decode cX5_init 6 = .ok (.putfield 9, 3) by decide +kernel) (fun H locs hP hD hS => ?_)
  have hP : va_P D vwCl ((h0, .inr (5, [.int 0, .null, .null, .null])) :: ([])) H := hP
  have hD : va_D A ((h0, .inr (5, [.int 0, .null, .null, .null])) :: ([])) := hD
  refine lv_aload_n hx hb (pc := 9) (k := 0) (show decode cX5_init 9 = .ok (.aload_n 0, 1) by decide +kernel) rfl (lv_at hl 0 rfl) ?_
  refine lv_bipush hx hb (pc := 10) (n := 7) (v := 7) (show decode cX5_init 10 = .ok (.bipush 7, 2) by decide +kernel) (by decide) ?_
  refine g_newI (N := 7) hx hb (hts _ gI_words.1) hK hP hD hS hA (by decide) rfl (Nat.le_of_ble_eq_true rfl) (Nat.le_of_ble_eq_true rfl) (Nat.le_of_ble_eq_true rfl) (show decode cX5_init 12 = .ok (.newarray .int, 2) by decide +kernel) (fun q1 H hP hD hS => ?_)
  have hP : va_P D vwCl ((h0, .inr (5, [.int 0, .null, .null, .null])) :: ([] ++ [(q1, .inl (cA 0, 7, .inl (fun _ => 0)))])) H := hP
  have hD : va_D A ((h0, .inr (5, [.int 0, .null, .null, .null])) :: ([] ++ [(q1, .inl (cA 0, 7, .inl (fun _ => 0)))])) := hD
  generalize hch2 : ([] ++ [(q1, .inl (cA 0, 7, .inl (fun _ => 0)))] : va_W) = ch2 at hP hD
  refine va_putF (D := D) (ci := 5) (v := .ref q1) (ty := .array .int) (C := RX5) (T := TX5) (N := 4) hx hb hts (gCls_in 5 _ rfl) tyX5 tyX5_ok nmX5 hown hK hP hD hS 0 rfl rfl 1 (by decide) (hts _ (gWd_UW (w := 156) (by decide +kernel))) (fun _ h9 => h9) rfl hin rfl (by decide +kernel) rfl rfl (Nat.le_of_ble_eq_true rfl) (show decode cX5_init 14 = .ok (.putfield 15, 3) by decide +kernel) (fun H locs hP hD hS => ?_)
  have hP : va_P D vwCl ((h0, .inr (5, [.int 0, .ref q1, .null, .null])) :: (ch2)) H := hP
  have hD : va_D A ((h0, .inr (5, [.int 0, .ref q1, .null, .null])) :: (ch2)) := hD
  refine lv_aload_n hx hb (pc := 17) (k := 0) (show decode cX5_init 17 = .ok (.aload_n 0, 1) by decide +kernel) rfl (lv_at hl 0 rfl) ?_
  refine va_new (ci := 1) (fs := [.int 0, .null, .null]) (C := RX1) (T := TX1) (N := 3) hx hb hts (gCls_in 1 _ rfl) tyX1 tyX1_ok hown (hts _ (gWd_UW (w := 133) (by decide +kernel))) (hts _ (gWd_UW (w := 134) (by decide +kernel))) (hts _ (gWd_UW (w := 59) (by decide +kernel))) hK hP hD hS hA rfl (by decide) (Nat.le_of_ble_eq_true rfl) (Nat.le_of_ble_eq_true rfl) (show decode cX5_init 18 = .ok (.new 19, 3) by decide +kernel) (fun q3 H hP hD hS => ?_)
  have hP : va_P D vwCl (((h0, .inr (5, [.int 0, .ref q1, .null, .null])) :: (ch2)) ++ [(q3, .inr (1, [.int 0, .null, .null]))]) H := hP
  have hD : va_D A (((h0, .inr (5, [.int 0, .ref q1, .null, .null])) :: (ch2)) ++ [(q3, .inr (1, [.int 0, .null, .null]))]) := hD
  refine lv_dup hx hb (pc := 21) (show decode cX5_init 21 = .ok (.dup, 1) by decide +kernel) rfl ?_
  refine g_ctor (ws := (h0, .inr (5, [.int 0, .ref q1, .null, .null])) :: (ch2)) (own := RX5) (index := 21) (mL := 1) (F := 1) (mc := 2) (ms := 28) hx hb (hml.trans hl.1.symm) hown hts hK hO1 hO0 hP hD hS hA (gi_X1_init l cA D) (gWd_UW (w := 137) (by decide +kernel)) (gWd_UW (w := 59) (by decide +kernel)) (gWd_UW (w := 135) (by decide +kernel)) (gWd_UW (w := 136) (by decide +kernel)) rfl ⟨by decide +kernel, by decide +kernel, by decide +kernel⟩ ⟨Nat.le_of_ble_eq_true rfl, Nat.le_of_ble_eq_true rfl⟩ (show (2 : Nat) ≤ 8 by decide) (Nat.le_of_ble_eq_true rfl) (Nat.le_of_ble_eq_true rfl) (show decode cX5_init 22 = .ok (.invokespecial 21, 3) by decide +kernel) (fun u4 H locs hP hD hS => ?_)
  have hP : va_P D vwCl ((h0, .inr (5, [.int 0, .ref q1, .null, .null])) :: (ch2 ++ gw_X1_init cA q3 u4)) H := hP
  have hD : va_D A ((h0, .inr (5, [.int 0, .ref q1, .null, .null])) :: (ch2 ++ gw_X1_init cA q3 u4)) := hD
  generalize hch5 : (ch2 ++ gw_X1_init cA q3 u4 : va_W) = ch5 at hP hD
  refine va_putF (D := D) (ci := 5) (v := .ref q3) (ty := .object "GriefDoors$Griefs") (C := RX5) (T := TX5) (N := 4) hx hb hts (gCls_in 5 _ rfl) tyX5 tyX5_ok nmX5 hown hK hP hD hS 0 rfl rfl 2 (by decide) (hts _ (gWd_UW (w := 158) (by decide +kernel))) (fun _ h9 => h9) rfl hin rfl (by decide +kernel) rfl rfl (Nat.le_of_ble_eq_true rfl) (show decode cX5_init 25 = .ok (.putfield 22, 3) by decide +kernel) (fun H locs hP hD hS => ?_)
  have hP : va_P D vwCl ((h0, .inr (5, [.int 0, .ref q1, .ref q3, .null])) :: (ch5)) H := hP
  have hD : va_D A ((h0, .inr (5, [.int 0, .ref q1, .ref q3, .null])) :: (ch5)) := hD
  refine lv_aload_n hx hb (pc := 28) (k := 0) (show decode cX5_init 28 = .ok (.aload_n 0, 1) by decide +kernel) rfl (lv_at hl 0 rfl) ?_
  refine va_new (ci := 1) (fs := [.int 0, .null, .null]) (C := RX1) (T := TX1) (N := 3) hx hb hts (gCls_in 1 _ rfl) tyX1 tyX1_ok hown (hts _ (gWd_UW (w := 133) (by decide +kernel))) (hts _ (gWd_UW (w := 134) (by decide +kernel))) (hts _ (gWd_UW (w := 59) (by decide +kernel))) hK hP hD hS hA rfl (by decide) (Nat.le_of_ble_eq_true rfl) (Nat.le_of_ble_eq_true rfl) (show decode cX5_init 29 = .ok (.new 19, 3) by decide +kernel) (fun q6 H hP hD hS => ?_)
  have hP : va_P D vwCl (((h0, .inr (5, [.int 0, .ref q1, .ref q3, .null])) :: (ch5)) ++ [(q6, .inr (1, [.int 0, .null, .null]))]) H := hP
  have hD : va_D A (((h0, .inr (5, [.int 0, .ref q1, .ref q3, .null])) :: (ch5)) ++ [(q6, .inr (1, [.int 0, .null, .null]))]) := hD
  refine lv_dup hx hb (pc := 32) (show decode cX5_init 32 = .ok (.dup, 1) by decide +kernel) rfl ?_
  refine g_ctor (ws := (h0, .inr (5, [.int 0, .ref q1, .ref q3, .null])) :: (ch5)) (own := RX5) (index := 21) (mL := 1) (F := 1) (mc := 2) (ms := 28) hx hb (hml.trans hl.1.symm) hown hts hK hO1 hO0 hP hD hS hA (gi_X1_init l cA D) (gWd_UW (w := 137) (by decide +kernel)) (gWd_UW (w := 59) (by decide +kernel)) (gWd_UW (w := 135) (by decide +kernel)) (gWd_UW (w := 136) (by decide +kernel)) rfl ⟨by decide +kernel, by decide +kernel, by decide +kernel⟩ ⟨Nat.le_of_ble_eq_true rfl, Nat.le_of_ble_eq_true rfl⟩ (show (2 : Nat) ≤ 8 by decide) (Nat.le_of_ble_eq_true rfl) (Nat.le_of_ble_eq_true rfl) (show decode cX5_init 33 = .ok (.invokespecial 21, 3) by decide +kernel) (fun u7 H locs hP hD hS => ?_)
  have hP : va_P D vwCl ((h0, .inr (5, [.int 0, .ref q1, .ref q3, .null])) :: (ch5 ++ gw_X1_init cA q6 u7)) H := hP
  have hD : va_D A ((h0, .inr (5, [.int 0, .ref q1, .ref q3, .null])) :: (ch5 ++ gw_X1_init cA q6 u7)) := hD
  generalize hch8 : (ch5 ++ gw_X1_init cA q6 u7 : va_W) = ch8 at hP hD
  refine va_putF (D := D) (ci := 5) (v := .ref q6) (ty := .object "GriefDoors$Griefs") (C := RX5) (T := TX5) (N := 4) hx hb hts (gCls_in 5 _ rfl) tyX5 tyX5_ok nmX5 hown hK hP hD hS 0 rfl rfl 3 (by decide) (hts _ (gWd_UW (w := 160) (by decide +kernel))) (fun _ h9 => h9) rfl hin rfl (by decide +kernel) rfl rfl (Nat.le_of_ble_eq_true rfl) (show decode cX5_init 36 = .ok (.putfield 26, 3) by decide +kernel) (fun H locs hP hD hS => ?_)
  have hP : va_P D vwCl ((h0, .inr (5, [.int 0, .ref q1, .ref q3, .ref q6])) :: (ch8)) H := hP
  have hD : va_D A ((h0, .inr (5, [.int 0, .ref q1, .ref q3, .ref q6])) :: (ch8)) := hD
  refine W.widen (k := 7) (n := 69) (Nat.le_of_ble_eq_true rfl) (Nat.le_of_ble_eq_true rfl) ?_
  subst hch8
  subst hch5
  subst hch2
  exact W.vret hx hb hr (fun t ht hW => ⟨⟨gAd [q1, q3, (u4 1), (u4 2), q6, (u7 1), (u7 2)], rfl, trivial, by rw [ht]; exact hP, va_K.moved hW.alike hK, hD⟩, hS.F ht⟩) hS.2.2 (show decode cX5_init 39 = .ok (.return_, 1) by decide +kernel) hlocks
