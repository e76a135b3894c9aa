-- 13: the constructors, row by row (by program)
def gw_X1_init (cA : Nat → ClassId) (h0 : Nat) (u : Nat → Nat) : va_W := [(h0, .inr (1, [.int 0, .ref (u 1), .ref (u 2)])), ((u 1), .inl (cA 0, 7, .inl (fun _ => 0))), ((u 2), .inl (cA 0, 21, .inl (fun _ => 0)))]
set_option maxHeartbeats 8000000 in
set_option maxRecDepth 100000 in
theorem gi_X1_init (l : Launch) (cA : Nat → ClassId) (D : va_G) : gInit l cA D yX1_init cX1_init 1 1 2 28 1 [.int 0, .null, .null] (gw_X1_init cA) := by
  intro h0 sz
  refine Met.ofW (cc := cX1_init) (maxL := 1) (ret := none) (by decide +kernel) rfl ?_
  intro p e s m args below meth c s₁ B hml hv
  obtain ⟨rfl, hsz, hP, hK, hD0, hO1, hO0⟩ := hv
  have hx := B.exec
  have hb := B.bytes
  have hr := B.returns
  have hts : ∀ w ∈ gUW, w.before _ s = true := fun w hw => atoms_spec (ws := .code yX1_init cX1_init 1 none :: gUW) B.pre w (List.mem_cons_of_mem _ hw)
  have hown : s.vm.findClass RX1 = some m.cls := findClass_of_methodNamed B.named
  have hlocks := B.notSynchronized
  have hin : meth.name = "<init>" := (name_of_methodNamed B.named B.method).1
  subst hsz
  have hD := hD0.self (sz := s.heap.size)
  generalize hAe : va_A [(h0, .inr (1, [.int 0, .null, .null]))] s.heap.size = A at hD ⊢
  have hA : ∀ q : Nat, s.heap.size ≤ q → A q := fun q h => by rw [← hAe]; exact Or.inr h
  have hS : va_S A s.heap s.heap [] := va_S.rf
  have hl := lv_entry ([.ref h0]) (n := 1) (Nat.le_of_ble_eq_true rfl)
  rw [lg_entry_eq]
  generalize (lg_sl ([.ref h0]) ++ List.replicate (1 - (lg_sl ([.ref h0])).length) Slot.unset).toArray = ls at hl ⊢
  have hl : lv_has ls 1 [(0, .ref h0)] := hl
  refine lv_aload_n hx hb (pc := 0) (k := 0) (show decode cX1_init 0 = .ok (.aload_n 0, 1) by decide +kernel) rfl (lv_at hl 0 rfl) ?_
  refine W.objInit hx hb hown (hts _ (gWd_UW (w := 138) (by decide +kernel))) (hts _ (gWd_UW (w := 79) (by decide +kernel))) (hts _ (gWd_UW (w := 80) (by decide +kernel))) rfl (by rw [hml]; exact hl.1) rfl (show decode cX1_init 1 = .ok (.invokespecial 3, 3) by decide +kernel) (Nat.le_of_ble_eq_true rfl) (Nat.le_of_ble_eq_true rfl) ?_
  refine W.eq (g2 := F0 m 4 ls []) rfl ?_
  refine lv_aload_n hx hb (pc := 4) (k := 0) (show decode cX1_init 4 = .ok (.aload_n 0, 1) by decide +kernel) rfl (lv_at hl 0 rfl) ?_
  refine lv_iconst hx hb (pc := 5) (n := 0) (v := 0) (show decode cX1_init 5 = .ok (.iconst 0, 1) by decide +kernel) (by decide) ?_
  refine va_put (D := D) (ci := 1) (v := .int 0) (ty := .int) (C := RX1) (T := TX1) (N := 3) hx hb hts (gCls_in 1 _ rfl) tyX1 tyX1_ok nmX1 hown hK hP hD hS 0 rfl rfl 0 (by decide) (hts _ (gWd_UW (w := 139) (by decide +kernel))) (fun _ h9 => h9) rfl (by decide +kernel) rfl rfl (Nat.le_of_ble_eq_true rfl) (show decode cX1_init 6 = .ok (.putfield 9, 3) by decide +kernel) (fun H locs hP hD hS => ?_)
  have hP : va_P D vwCl ((h0, .inr (1, [.int 0, .null, .null])) :: ([])) H := hP
  have hD : va_D A ((h0, .inr (1, [.int 0, .null, .null])) :: ([])) := hD
  refine lv_aload_n hx hb (pc := 9) (k := 0) (show decode cX1_init 9 = .ok (.aload_n 0, 1) by decide +kernel) rfl (lv_at hl 0 rfl) ?_
  refine lv_bipush hx hb (pc := 10) (n := 7) (v := 7) (show decode cX1_init 10 = .ok (.bipush 7, 2) by decide +kernel) (by decide) ?_
  refine g_newI (N := 7) hx hb (hts _ gI_words.1) hK hP hD hS hA (by decide) rfl (Nat.le_of_ble_eq_true rfl) (Nat.le_of_ble_eq_true rfl) (Nat.le_of_ble_eq_true rfl) (show decode cX1_init 12 = .ok (.newarray .int, 2) by decide +kernel) (fun q1 H hP hD hS => ?_)
  have hP : va_P D vwCl ((h0, .inr (1, [.int 0, .null, .null])) :: (([] ++ [(q1, .inl (cA 0, 7, .inl (fun _ => 0)))]))) H := hP
  have hD : va_D A ((h0, .inr (1, [.int 0, .null, .null])) :: (([] ++ [(q1, .inl (cA 0, 7, .inl (fun _ => 0)))]))) := hD
  refine va_putF (D := D) (ci := 1) (v := .ref q1) (ty := .array .int) (C := RX1) (T := TX1) (N := 3) hx hb hts (gCls_in 1 _ rfl) tyX1 tyX1_ok nmX1 hown hK hP hD hS 0 rfl rfl 1 (by decide) (hts _ (gWd_UW (w := 142) (by decide +kernel))) (fun _ h9 => h9) rfl hin rfl (by decide +kernel) rfl rfl (Nat.le_of_ble_eq_true rfl) (show decode cX1_init 14 = .ok (.putfield 15, 3) by decide +kernel) (fun H locs hP hD hS => ?_)
  have hP : va_P D vwCl ((h0, .inr (1, [.int 0, .ref q1, .null])) :: (([] ++ [(q1, .inl (cA 0, 7, .inl (fun _ => 0)))]))) H := hP
  have hD : va_D A ((h0, .inr (1, [.int 0, .ref q1, .null])) :: (([] ++ [(q1, .inl (cA 0, 7, .inl (fun _ => 0)))]))) := hD
  refine lv_aload_n hx hb (pc := 17) (k := 0) (show decode cX1_init 17 = .ok (.aload_n 0, 1) by decide +kernel) rfl (lv_at hl 0 rfl) ?_
  refine lv_bipush hx hb (pc := 18) (n := 21) (v := 21) (show decode cX1_init 18 = .ok (.bipush 21, 2) by decide +kernel) (by decide) ?_
  refine g_newI (N := 21) hx hb (hts _ gI_words.1) hK hP hD hS hA (by decide) rfl (Nat.le_of_ble_eq_true rfl) (Nat.le_of_ble_eq_true rfl) (Nat.le_of_ble_eq_true rfl) (show decode cX1_init 20 = .ok (.newarray .int, 2) by decide +kernel) (fun q2 H hP hD hS => ?_)
  have hP : va_P D vwCl ((h0, .inr (1, [.int 0, .ref q1, .null])) :: ((([] ++ [(q1, .inl (cA 0, 7, .inl (fun _ => 0)))]) ++ [(q2, .inl (cA 0, 21, .inl (fun _ => 0)))]))) H := hP
  have hD : va_D A ((h0, .inr (1, [.int 0, .ref q1, .null])) :: ((([] ++ [(q1, .inl (cA 0, 7, .inl (fun _ => 0)))]) ++ [(q2, .inl (cA 0, 21, .inl (fun _ => 0)))]))) := hD
  refine va_putF (D := D) (ci := 1) (v := .ref q2) (ty := .array .int) (C := RX1) (T := TX1) (N := 3) hx hb hts (gCls_in 1 _ rfl) tyX1 tyX1_ok nmX1 hown hK hP hD hS 0 rfl rfl 2 (by decide) (hts _ (gWd_UW (w := 145) (by decide +kernel))) (fun _ h9 => h9) rfl hin rfl (by decide +kernel) rfl rfl (Nat.le_of_ble_eq_true rfl) (show decode cX1_init 22 = .ok (.putfield 19, 3) by decide +kernel) (fun H locs hP hD hS => ?_)
  have hP : va_P D vwCl ((h0, .inr (1, [.int 0, .ref q1, .ref q2])) :: ((([] ++ [(q1, .inl (cA 0, 7, .inl (fun _ => 0)))]) ++ [(q2, .inl (cA 0, 21, .inl (fun _ => 0)))]))) H := hP
  have hD : va_D A ((h0, .inr (1, [.int 0, .ref q1, .ref q2])) :: ((([] ++ [(q1, .inl (cA 0, 7, .inl (fun _ => 0)))]) ++ [(q2, .inl (cA 0, 21, .inl (fun _ => 0)))]))) := hD
  refine W.widen (k := 2) (n := 28) (Nat.le_of_ble_eq_true rfl) (Nat.le_of_ble_eq_true rfl) ?_
  exact W.vret hx hb hr (fun t ht hW => ⟨⟨gAd [q1, q2], rfl, trivial, by rw [ht]; exact hP, va_K.moved hW.alike hK, hD⟩, hS.F ht⟩) hS.2.2 (show decode cX1_init 25 = .ok (.return_, 1) by decide +kernel) hlocks
def gw_X4_init (cA : Nat → ClassId) (h0 : Nat) (u : Nat → Nat) : va_W := [(h0, .inr (4, [.int 0, .ref (u 1), .ref (u 2)])), ((u 1), .inl (cA 0, 12, .inl (fun _ => 0))), ((u 2), .inl (cA 0, 12, .inl (fun _ => 0)))]
set_option maxHeartbeats 8000000 in
set_option maxRecDepth 100000 in
theorem gi_X4_init (l : Launch) (cA : Nat → ClassId) (D : va_G) : gInit l cA D yX4_init cX4_init 1 1 2 24 4 [.int 0, .null, .null] (gw_X4_init cA) := by
  intro h0 sz
  refine Met.ofW (cc := cX4_init) (maxL := 1) (ret := none) (by decide +kernel) rfl ?_
  intro p e s m args below meth c s₁ B hml hv
  obtain ⟨rfl, hsz, hP, hK, hD0, hO1, hO0⟩ := hv
  have hx := B.exec
  have hb := B.bytes
  have hr := B.returns
  have hts : ∀ w ∈ gUW, w.before _ s = true := fun w hw => atoms_spec (ws := .code yX4_init cX4_init 1 none :: gUW) B.pre w (List.mem_cons_of_mem _ hw)
  have hown : s.vm.findClass RX4 = some m.cls := findClass_of_methodNamed B.named
  have hlocks := B.notSynchronized
  have hin : meth.name = "<init>" := (name_of_methodNamed B.named B.method).1
  subst hsz
  have hD := hD0.self (sz := s.heap.size)
  generalize hAe : va_A [(h0, .inr (4, [.int 0, .null, .null]))] s.heap.size = A at hD ⊢
  have hA : ∀ q : Nat, s.heap.size ≤ q → A q := fun q h => by rw [← hAe]; exact Or.inr h
  have hS : va_S A s.heap s.heap [] := va_S.rf
  have hl := lv_entry ([.ref h0]) (n := 1) (Nat.le_of_ble_eq_true rfl)
  rw [lg_entry_eq]
  generalize (lg_sl ([.ref h0]) ++ List.replicate (1 - (lg_sl ([.ref h0])).length) Slot.unset).toArray = ls at hl ⊢
  have hl : lv_has ls 1 [(0, .ref h0)] := hl
  refine lv_aload_n hx hb (pc := 0) (k := 0) (show decode cX4_init 0 = .ok (.aload_n 0, 1) by decide +kernel) rfl (lv_at hl 0 rfl) ?_
  refine W.objInit hx hb hown (hts _ (gWd_UW (w := 176) (by decide +kernel))) (hts _ (gWd_UW (w := 79) (by decide +kernel))) (hts _ (gWd_UW (w := 80) (by decide +kernel))) rfl (by rw [hml]; exact hl.1) rfl (show decode cX4_init 1 = .ok (.invokespecial 3, 3) by decide +kernel) (Nat.le_of_ble_eq_true rfl) (Nat.le_of_ble_eq_true rfl) ?_
  refine W.eq (g2 := F0 m 4 ls []) rfl ?_
  refine lv_aload_n hx hb (pc := 4) (k := 0) (show decode cX4_init 4 = .ok (.aload_n 0, 1) by decide +kernel) rfl (lv_at hl 0 rfl) ?_
  refine lv_iconst hx hb (pc := 5) (n := 0) (v := 0) (show decode cX4_init 5 = .ok (.iconst 0, 1) by decide +kernel) (by decide) ?_
  refine va_put (D := D) (ci := 4) (v := .int 0) (ty := .int) (C := RX4) (T := TX4) (N := 3) hx hb hts (gCls_in 4 _ rfl) tyX4 tyX4_ok nmX4 hown hK hP hD hS 0 rfl rfl 0 (by decide) (hts _ (gWd_UW (w := 177) (by decide +kernel))) (fun _ h9 => h9) rfl (by decide +kernel) rfl rfl (Nat.le_of_ble_eq_true rfl) (show decode cX4_init 6 = .ok (.putfield 9, 3) by decide +kernel) (fun H locs hP hD hS => ?_)
  have hP : va_P D vwCl ((h0, .inr (4, [.int 0, .null, .null])) :: ([])) H := hP
  have hD : va_D A ((h0, .inr (4, [.int 0, .null, .null])) :: ([])) := hD
  refine lv_aload_n hx hb (pc := 9) (k := 0) (show decode cX4_init 9 = .ok (.aload_n 0, 1) by decide +kernel) rfl (lv_at hl 0 rfl) ?_
  refine lv_bipush hx hb (pc := 10) (n := 12) (v := 12) (show decode cX4_init 10 = .ok (.bipush 12, 2) by decide +kernel) (by decide) ?_
  refine g_newI (N := 12) hx hb (hts _ gI_words.1) hK hP hD hS hA (by decide) rfl (Nat.le_of_ble_eq_true rfl) (Nat.le_of_ble_eq_true rfl) (Nat.le_of_ble_eq_true rfl) (show decode cX4_init 12 = .ok (.newarray .int, 2) by decide +kernel) (fun q1 H hP hD hS => ?_)
  have hP : va_P D vwCl ((h0, .inr (4, [.int 0, .null, .null])) :: (([] ++ [(q1, .inl (cA 0, 12, .inl (fun _ => 0)))]))) H := hP
  have hD : va_D A ((h0, .inr (4, [.int 0, .null, .null])) :: (([] ++ [(q1, .inl (cA 0, 12, .inl (fun _ => 0)))]))) := hD
  refine va_putF (D := D) (ci := 4) (v := .ref q1) (ty := .array .int) (C := RX4) (T := TX4) (N := 3) hx hb hts (gCls_in 4 _ rfl) tyX4 tyX4_ok nmX4 hown hK hP hD hS 0 rfl rfl 1 (by decide) (hts _ (gWd_UW (w := 180) (by decide +kernel))) (fun _ h9 => h9) rfl hin rfl (by decide +kernel) rfl rfl (Nat.le_of_ble_eq_true rfl) (show decode cX4_init 14 = .ok (.putfield 15, 3) by decide +kernel) (fun H locs hP hD hS => ?_)
  have hP : va_P D vwCl ((h0, .inr (4, [.int 0, .ref q1, .null])) :: (([] ++ [(q1, .inl (cA 0, 12, .inl (fun _ => 0)))]))) H := hP
  have hD : va_D A ((h0, .inr (4, [.int 0, .ref q1, .null])) :: (([] ++ [(q1, .inl (cA 0, 12, .inl (fun _ => 0)))]))) := hD
  refine lv_aload_n hx hb (pc := 17) (k := 0) (show decode cX4_init 17 = .ok (.aload_n 0, 1) by decide +kernel) rfl (lv_at hl 0 rfl) ?_
  refine lv_bipush hx hb (pc := 18) (n := 12) (v := 12) (show decode cX4_init 18 = .ok (.bipush 12, 2) by decide +kernel) (by decide) ?_
  refine g_newI (N := 12) hx hb (hts _ gI_words.1) hK hP hD hS hA (by decide) rfl (Nat.le_of_ble_eq_true rfl) (Nat.le_of_ble_eq_true rfl) (Nat.le_of_ble_eq_true rfl) (show decode cX4_init 20 = .ok (.newarray .int, 2) by decide +kernel) (fun q2 H hP hD hS => ?_)
  have hP : va_P D vwCl ((h0, .inr (4, [.int 0, .ref q1, .null])) :: ((([] ++ [(q1, .inl (cA 0, 12, .inl (fun _ => 0)))]) ++ [(q2, .inl (cA 0, 12, .inl (fun _ => 0)))]))) H := hP
  have hD : va_D A ((h0, .inr (4, [.int 0, .ref q1, .null])) :: ((([] ++ [(q1, .inl (cA 0, 12, .inl (fun _ => 0)))]) ++ [(q2, .inl (cA 0, 12, .inl (fun _ => 0)))]))) := hD
  refine va_putF (D := D) (ci := 4) (v := .ref q2) (ty := .array .int) (C := RX4) (T := TX4) (N := 3) hx hb hts (gCls_in 4 _ rfl) tyX4 tyX4_ok nmX4 hown hK hP hD hS 0 rfl rfl 2 (by decide) (hts _ (gWd_UW (w := 183) (by decide +kernel))) (fun _ h9 => h9) rfl hin rfl (by decide +kernel) rfl rfl (Nat.le_of_ble_eq_true rfl) (show decode cX4_init 22 = .ok (.putfield 19, 3) by decide +kernel) (fun H locs hP hD hS => ?_)
  have hP : va_P D vwCl ((h0, .inr (4, [.int 0, .ref q1, .ref q2])) :: ((([] ++ [(q1, .inl (cA 0, 12, .inl (fun _ => 0)))]) ++ [(q2, .inl (cA 0, 12, .inl (fun _ => 0)))]))) H := hP
  have hD : va_D A ((h0, .inr (4, [.int 0, .ref q1, .ref q2])) :: ((([] ++ [(q1, .inl (cA 0, 12, .inl (fun _ => 0)))]) ++ [(q2, .inl (cA 0, 12, .inl (fun _ => 0)))]))) := hD
  refine W.widen (k := 2) (n := 24) (Nat.le_of_ble_eq_true rfl) (Nat.le_of_ble_eq_true rfl) ?_
  exact W.vret hx hb hr (fun t ht hW => ⟨⟨gAd [q1, q2], rfl, trivial, by rw [ht]; exact hP, va_K.moved hW.alike hK, hD⟩, hS.F ht⟩) hS.2.2 (show decode cX4_init 25 = .ok (.return_, 1) by decide +kernel) hlocks
def gw_X0_init (cA : Nat → ClassId) (h0 : Nat) (u : Nat → Nat) : va_W := [(h0, .inr (0, [.int 0, .int 0, .ref (u 1), .ref (u 2)])), ((u 1), .inl (cA 0, 10, .inl (fun _ => 0))), ((u 2), .inl (cA 0, 10, .inl (fun _ => 0)))]
set_option maxHeartbeats 8000000 in
set_option maxRecDepth 100000 in
theorem gi_X0_init (l : Launch) (cA : Nat → ClassId) (D : va_G) : gInit l cA D yX0_init cX0_init 1 1 2 20 0 [.int 0, .int 0, .null, .null] (gw_X0_init cA) := by
  intro h0 sz
  refine Met.ofW (cc := cX0_init) (maxL := 1) (ret := none) (by decide +kernel) rfl ?_
  intro p e s m args below meth c s₁ B hml hv
  obtain ⟨rfl, hsz, hP, hK, hD0, hO1, hO0⟩ := hv
  have hx := B.exec
  have hb := B.bytes
  have hr := B.returns
  have hts : ∀ w ∈ gUW, w.before _ s = true := fun w hw => atoms_spec (ws := .code yX0_init cX0_init 1 none :: gUW) B.pre w (List.mem_cons_of_mem _ hw)
  have hown : s.vm.findClass RX0 = some m.cls := findClass_of_methodNamed B.named
  have hlocks := B.notSynchronized
  have hin : meth.name = "<init>" := (name_of_methodNamed B.named B.method).1
  subst hsz
  have hD := hD0.self (sz := s.heap.size)
  generalize hAe : va_A [(h0, .inr (0, [.int 0, .int 0, .null, .null]))] s.heap.size = A at hD ⊢
  have hA : ∀ q : Nat, s.heap.size ≤ q → A q := fun q h => by rw [← hAe]; exact Or.inr h
  have hS : va_S A s.heap s.heap [] := va_S.rf
  have hl := lv_entry ([.ref h0]) (n := 1) (Nat.le_of_ble_eq_true rfl)
  rw [lg_entry_eq]
  generalize (lg_sl ([.ref h0]) ++ List.replicate (1 - (lg_sl ([.ref h0])).length) Slot.unset).toArray = ls at hl ⊢
  have hl : lv_has ls 1 [(0, .ref h0)] := hl
  refine lv_aload_n hx hb (pc := 0) (k := 0) (show decode cX0_init 0 = .ok (.aload_n 0, 1) by decide +kernel) rfl (lv_at hl 0 rfl) ?_
  refine W.objInit hx hb hown (hts _ (gWd_UW (w := 285) (by decide +kernel))) (hts _ (gWd_UW (w := 79) (by decide +kernel))) (hts _ (gWd_UW (w := 80) (by decide +kernel))) rfl (by rw [hml]; exact hl.1) rfl (show decode cX0_init 1 = .ok (.invokespecial 3, 3) by decide +kernel) (Nat.le_of_ble_eq_true rfl) (Nat.le_of_ble_eq_true rfl) ?_
  refine W.eq (g2 := F0 m 4 ls []) rfl ?_
  refine lv_aload_n hx hb (pc := 4) (k := 0) (show decode cX0_init 4 = .ok (.aload_n 0, 1) by decide +kernel) rfl (lv_at hl 0 rfl) ?_
  refine lv_iconst hx hb (pc := 5) (n := 0) (v := 0) (show decode cX0_init 5 = .ok (.iconst 0, 1) by decide +kernel) (by decide) ?_
  refine va_put (D := D) (ci := 0) (v := .int 0) (ty := .boolean) (C := RX0) (T := TX0) (N := 4) hx hb hts (gCls_in 0 _ rfl) tyX0 tyX0_ok nmX0 hown hK hP hD hS 0 rfl rfl 0 (by decide) (hts _ (gWd_UW (w := 286) (by decide +kernel))) (fun _ h9 => h9) rfl (by decide +kernel) rfl rfl (Nat.le_of_ble_eq_true rfl) (show decode cX0_init 6 = .ok (.putfield 9, 3) by decide +kernel) (fun H locs hP hD hS => ?_)
  have hP : va_P D vwCl ((h0, .inr (0, [.int 0, .int 0, .null, .null])) :: ([])) H := hP
  have hD : va_D A ((h0, .inr (0, [.int 0, .int 0, .null, .null])) :: ([])) := hD
  refine lv_aload_n hx hb (pc := 9) (k := 0) (show decode cX0_init 9 = .ok (.aload_n 0, 1) by decide +kernel) rfl (lv_at hl 0 rfl) ?_
  refine lv_iconst hx hb (pc := 10) (n := 0) (v := 0) (show decode cX0_init 10 = .ok (.iconst 0, 1) by decide +kernel) (by decide) ?_
  refine va_put (D := D) (ci := 0) (v := .int 0) (ty := .int) (C := RX0) (T := TX0) (N := 4) hx hb hts (gCls_in 0 _ rfl) tyX0 tyX0_ok nmX0 hown hK hP hD hS 0 rfl rfl 1 (by decide) (hts _ (gWd_UW (w := 288) (by decide +kernel))) (fun _ h9 => h9) rfl (by decide +kernel) rfl rfl (Nat.le_of_ble_eq_true rfl) (show decode cX0_init 11 = .ok (.putfield 15, 3) by decide +kernel) (fun H locs hP hD hS => ?_)
  have hP : va_P D vwCl ((h0, .inr (0, [.int 0, .int 0, .null, .null])) :: ([])) H := hP
  have hD : va_D A ((h0, .inr (0, [.int 0, .int 0, .null, .null])) :: ([])) := hD
  refine lv_aload_n hx hb (pc := 14) (k := 0) (show decode cX0_init 14 = .ok (.aload_n 0, 1) by decide +kernel) rfl (lv_at hl 0 rfl) ?_
  refine lv_bipush hx hb (pc := 15) (n := 10) (v := 10) (show decode cX0_init 15 = .ok (.bipush 10, 2) by decide +kernel) (by decide) ?_
  refine g_newI (N := 10) hx hb (hts _ gI_words.1) hK hP hD hS hA (by decide) rfl (Nat.le_of_ble_eq_true rfl) (Nat.le_of_ble_eq_true rfl) (Nat.le_of_ble_eq_true rfl) (show decode cX0_init 17 = .ok (.newarray .int, 2) by decide +kernel) (fun q1 H hP hD hS => ?_)
  have hP : va_P D vwCl ((h0, .inr (0, [.int 0, .int 0, .null, .null])) :: (([] ++ [(q1, .inl (cA 0, 10, .inl (fun _ => 0)))]))) H := hP
  have hD : va_D A ((h0, .inr (0, [.int 0, .int 0, .null, .null])) :: (([] ++ [(q1, .inl (cA 0, 10, .inl (fun _ => 0)))]))) := hD
  refine va_putF (D := D) (ci := 0) (v := .ref q1) (ty := .array .int) (C := RX0) (T := TX0) (N := 4) hx hb hts (gCls_in 0 _ rfl) tyX0 tyX0_ok nmX0 hown hK hP hD hS 0 rfl rfl 2 (by decide) (hts _ (gWd_UW (w := 290) (by decide +kernel))) (fun _ h9 => h9) rfl hin rfl (by decide +kernel) rfl rfl (Nat.le_of_ble_eq_true rfl) (show decode cX0_init 19 = .ok (.putfield 19, 3) by decide +kernel) (fun H locs hP hD hS => ?_)
  have hP : va_P D vwCl ((h0, .inr (0, [.int 0, .int 0, .ref q1, .null])) :: (([] ++ [(q1, .inl (cA 0, 10, .inl (fun _ => 0)))]))) H := hP
  have hD : va_D A ((h0, .inr (0, [.int 0, .int 0, .ref q1, .null])) :: (([] ++ [(q1, .inl (cA 0, 10, .inl (fun _ => 0)))]))) := hD
  refine lv_aload_n hx hb (pc := 22) (k := 0) (show decode cX0_init 22 = .ok (.aload_n 0, 1) by decide +kernel) rfl (lv_at hl 0 rfl) ?_
  refine lv_bipush hx hb (pc := 23) (n := 10) (v := 10) (show decode cX0_init 23 = .ok (.bipush 10, 2) by decide +kernel) (by decide) ?_
  refine g_newI (N := 10) hx hb (hts _ gI_words.1) hK hP hD hS hA (by decide) rfl (Nat.le_of_ble_eq_true rfl) (Nat.le_of_ble_eq_true rfl) (Nat.le_of_ble_eq_true rfl) (show decode cX0_init 25 = .ok (.newarray .int, 2) by decide +kernel) (fun q2 H hP hD hS => ?_)
  have hP : va_P D vwCl ((h0, .inr (0, [.int 0, .int 0, .ref q1, .null])) :: ((([] ++ [(q1, .inl (cA 0, 10, .inl (fun _ => 0)))]) ++ [(q2, .inl (cA 0, 10, .inl (fun _ => 0)))]))) H := hP
  have hD : va_D A ((h0, .inr (0, [.int 0, .int 0, .ref q1, .null])) :: ((([] ++ [(q1, .inl (cA 0, 10, .inl (fun _ => 0)))]) ++ [(q2, .inl (cA 0, 10, .inl (fun _ => 0)))]))) := hD
  refine va_putF (D := D) (ci := 0) (v := .ref q2) (ty := .array .int) (C := RX0) (T := TX0) (N := 4) hx hb hts (gCls_in 0 _ rfl) tyX0 tyX0_ok nmX0 hown hK hP hD hS 0 rfl rfl 3 (by decide) (hts _ (gWd_UW (w := 292) (by decide +kernel))) (fun _ h9 => h9) rfl hin rfl (by decide +kernel) rfl rfl (Nat.le_of_ble_eq_true rfl) (show decode cX0_init 27 = .ok (.putfield 23, 3) by decide +kernel) (fun H locs hP hD hS => ?_)
  have hP : va_P D vwCl ((h0, .inr (0, [.int 0, .int 0, .ref q1, .ref q2])) :: ((([] ++ [(q1, .inl (cA 0, 10, .inl (fun _ => 0)))]) ++ [(q2, .inl (cA 0, 10, .inl (fun _ => 0)))]))) H := hP
  have hD : va_D A ((h0, .inr (0, [.int 0, .int 0, .ref q1, .ref q2])) :: ((([] ++ [(q1, .inl (cA 0, 10, .inl (fun _ => 0)))]) ++ [(q2, .inl (cA 0, 10, .inl (fun _ => 0)))]))) := hD
  refine W.widen (k := 2) (n := 20) (Nat.le_of_ble_eq_true rfl) (Nat.le_of_ble_eq_true rfl) ?_
  exact W.vret hx hb hr (fun t ht hW => ⟨⟨gAd [q1, q2], rfl, trivial, by rw [ht]; exact hP, va_K.moved hW.alike hK, hD⟩, hS.F ht⟩) hS.2.2 (show decode cX0_init 30 = .ok (.return_, 1) by decide +kernel) hlocks
