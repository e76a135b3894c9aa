-- 14: constructors, row by row (by program)
def gw_X8_init (cA : Nat → ClassId) (h0 : Nat) (u : Nat → Nat) : va_W := [(h0, .inr (8, [.int 0, .int 0, .ref (u 1)])), ((u 1), .inl (cA 2, 8, .inr (.inr (.inr (.inr (va_up (va_up (va_up (va_up (va_up (va_up (va_up (va_up (fun _ => none) 0 (some (u 2))) 1 (some (u 5))) 2 (some (u 8))) 3 (some (u 11))) 4 (some (u 14))) 5 (some (u 17))) 6 (some (u 20))) 7 (some (u 23)))))))), ((u 2), .inr (1, [.int 0, .ref (u 3), .ref (u 4)])), ((u 3), .inl (cA 0, 7, .inl (fun _ => 0))), ((u 4), .inl (cA 0, 21, .inl (fun _ => 0))), ((u 5), .inr (1, [.int 0, .ref (u 6), .ref (u 7)])), ((u 6), .inl (cA 0, 7, .inl (fun _ => 0))), ((u 7), .inl (cA 0, 21, .inl (fun _ => 0))), ((u 8), .inr (1, [.int 0, .ref (u 9), .ref (u 10)])), ((u 9), .inl (cA 0, 7, .inl (fun _ => 0))), ((u 10), .inl (cA 0, 21, .inl (fun _ => 0))), ((u 11), .inr (1, [.int 0, .ref (u 12), .ref (u 13)])), ((u 12), .inl (cA 0, 7, .inl (fun _ => 0))), ((u 13), .inl (cA 0, 21, .inl (fun _ => 0))), ((u 14), .inr (1, [.int 0, .ref (u 15), .ref (u 16)])), ((u 15), .inl (cA 0, 7, .inl (fun _ => 0))), ((u 16), .inl (cA 0, 21, .inl (fun _ => 0))), ((u 17), .inr (1, [.int 0, .ref (u 18), .ref (u 19)])), ((u 18), .inl (cA 0, 7, .inl (fun _ => 0))), ((u 19), .inl (cA 0, 21, .inl (fun _ => 0))), ((u 20), .inr (1, [.int 0, .ref (u 21), .ref (u 22)])), ((u 21), .inl (cA 0, 7, .inl (fun _ => 0))), ((u 22), .inl (cA 0, 21, .inl (fun _ => 0))), ((u 23), .inr (1, [.int 0, .ref (u 24), .ref (u 25)])), ((u 24), .inl (cA 0, 7, .inl (fun _ => 0))), ((u 25), .inl (cA 0, 21, .inl (fun _ => 0)))]
set_option maxHeartbeats 8000000 in
set_option maxRecDepth 100000 in
theorem gi_X8_init (l : Launch) (cA : Nat → ClassId) (D : va_G) : gInit l cA D yX8_init cX8_init 1 2 25 256 8 [.int 0, .int 0, .null] (gw_X8_init cA) := by
  intro h0 sz
  refine Met.ofW (cc := cX8_init) (maxL := 1) (ret := none) (by decide +kernel) rfl ?_
  intro p e s m args below meth c s₁ B hml hv
  obtain ⟨rfl, hsz, hP, hK, hD0, hO1, hO0⟩ := hv
  have hx := B.exec
  have hb := B.bytes
  have hr := B.returns
  have hts : ∀ w ∈ gUW, w.before _ s = true := fun w hw => atoms_spec (ws := .code yX8_init cX8_init 1 none :: gUW) B.pre w (List.mem_cons_of_mem _ hw)
  have hown : s.vm.findClass RX8 = some m.cls := findClass_of_methodNamed B.named
  have hlocks := B.notSynchronized
  have hin : meth.name = "<init>" := (name_of_methodNamed B.named B.method).1
  subst hsz
  have hD := hD0.self (sz := s.heap.size)
  generalize hAe : va_A [(h0, .inr (8, [.int 0, .int 0, .null]))] s.heap.size = A at hD ⊢
  have hA : ∀ q : Nat, s.heap.size ≤ q → A q := fun q h => by rw [← hAe]; exact Or.inr h
  have hS : va_S A s.heap s.heap [] := va_S.rf
  have hl := lv_entry ([.ref h0]) (n := 1) (Nat.le_of_ble_eq_true rfl)
  rw [lg_entry_eq]
  generalize (lg_sl ([.ref h0]) ++ List.replicate (1 - (lg_sl ([.ref h0])).length) Slot.unset).toArray = ls at hl ⊢
  have hl : lv_has ls 1 [(0, .ref h0)] := hl
  refine lv_aload_n hx hb (pc := 0) (k := 0) (show decode cX8_init 0 = .ok (.aload_n 0, 1) by decide +kernel) rfl (lv_at hl 0 rfl) ?_
  refine W.objInit hx hb hown (hts _ (gWd_UW (w := 198) (by decide +kernel))) (hts _ (gWd_UW (w := 79) (by decide +kernel))) (hts _ (gWd_UW (w := 80) (by decide +kernel))) rfl (by rw [hml]; exact hl.1) rfl (show decode cX8_init 1 = .ok (.invokespecial 3, 3) by decide +kernel) (Nat.le_of_ble_eq_true rfl) (Nat.le_of_ble_eq_true rfl) ?_
  refine W.eq (g2 := F0 m 4 ls []) rfl ?_
  refine lv_aload_n hx hb (pc := 4) (k := 0) (show decode cX8_init 4 = .ok (.aload_n 0, 1) by decide +kernel) rfl (lv_at hl 0 rfl) ?_
  refine lv_iconst hx hb (pc := 5) (n := 0) (v := 0) (show decode cX8_init 5 = .ok (.iconst 0, 1) by decide +kernel) (by decide) ?_
  refine va_put (D := D) (ci := 8) (v := .int 0) (ty := .int) (C := RX8) (T := TX8) (N := 3) hx hb hts (gCls_in 8 _ rfl) tyX8 tyX8_ok nmX8 hown hK hP hD hS 0 rfl rfl 0 (by decide) (hts _ (gWd_UW (w := 202) (by decide +kernel))) (fun _ h9 => h9) rfl (by decide +kernel) rfl rfl (Nat.le_of_ble_eq_true rfl) (show decode cX8_init 6 = .ok (.putfield 9, 3) by decide +kernel) (fun H locs hP hD hS => ?_)
  have hP : va_P D vwCl ((h0, .inr (8, [.int 0, .int 0, .null])) :: ([])) H := hP
  have hD : va_D A ((h0, .inr (8, [.int 0, .int 0, .null])) :: ([])) := hD
  refine lv_aload_n hx hb (pc := 9) (k := 0) (show decode cX8_init 9 = .ok (.aload_n 0, 1) by decide +kernel) rfl (lv_at hl 0 rfl) ?_
  refine lv_iconst hx hb (pc := 10) (n := 0) (v := 0) (show decode cX8_init 10 = .ok (.iconst 0, 1) by decide +kernel) (by decide) ?_
  refine va_put (D := D) (ci := 8) (v := .int 0) (ty := .int) (C := RX8) (T := TX8) (N := 3) hx hb hts (gCls_in 8 _ rfl) tyX8 tyX8_ok nmX8 hown hK hP hD hS 0 rfl rfl 1 (by decide) (hts _ (gWd_UW (w := 204) (by decide +kernel))) (fun _ h9 => h9) rfl (by decide +kernel) rfl rfl (Nat.le_of_ble_eq_true rfl) (show decode cX8_init 11 = .ok (.putfield 15, 3) by decide +kernel) (fun H locs hP hD hS => ?_)
  have hP : va_P D vwCl ((h0, .inr (8, [.int 0, .int 0, .null])) :: ([])) H := hP
  have hD : va_D A ((h0, .inr (8, [.int 0, .int 0, .null])) :: ([])) := hD
  refine lv_aload_n hx hb (pc := 14) (k := 0) (show decode cX8_init 14 = .ok (.aload_n 0, 1) by decide +kernel) rfl (lv_at hl 0 rfl) ?_
  refine lv_bipush hx hb (pc := 15) (n := 8) (v := 8) (show decode cX8_init 15 = .ok (.bipush 8, 2) by decide +kernel) (by decide) ?_
  refine g_newQ (own := RX8) (C := RX1) (t0 := 2) (N := 8) hx hb hown (hts _ (gWd_UW (w := 199) (by decide +kernel))) hO1 hK rfl hP hD hS hA (by decide) rfl (Nat.le_of_ble_eq_true rfl) (Nat.le_of_ble_eq_true rfl) (Nat.le_of_ble_eq_true rfl) (show decode cX8_init 17 = .ok (.anewarray 18, 3) by decide +kernel) (fun q1 H hP hD hS => ?_)
  have hP : va_P D vwCl ((h0, .inr (8, [.int 0, .int 0, .null])) :: ([] ++ (q1, .inl (cA 2, 8, .inr (.inr (.inr (.inr (fun _ => none)))))) :: [])) H := hP
  have hD : va_D A ((h0, .inr (8, [.int 0, .int 0, .null])) :: ([] ++ (q1, .inl (cA 2, 8, .inr (.inr (.inr (.inr (fun _ => none)))))) :: [])) := hD
  refine lv_dup hx hb (pc := 20) (show decode cX8_init 20 = .ok (.dup, 1) by decide +kernel) rfl ?_
  refine lv_iconst hx hb (pc := 21) (n := 0) (v := 0) (show decode cX8_init 21 = .ok (.iconst 0, 1) by decide +kernel) (by decide) ?_
  refine va_new (ci := 1) (fs := [.int 0, .null, .null]) (C := RX1) (T := TX1) (N := 3) hx hb hts (gCls_in 1 _ rfl) tyX1 tyX1_ok hown (hts _ (gWd_UW (w := 199) (by decide +kernel))) (hts _ (gWd_UW (w := 134) (by decide +kernel))) (hts _ (gWd_UW (w := 59) (by decide +kernel))) hK hP hD hS hA rfl (by decide) (Nat.le_of_ble_eq_true rfl) (Nat.le_of_ble_eq_true rfl) (show decode cX8_init 22 = .ok (.new 18, 3) by decide +kernel) (fun q2 H hP hD hS => ?_)
  have hP : va_P D vwCl (((h0, .inr (8, [.int 0, .int 0, .null])) :: ([] ++ (q1, .inl (cA 2, 8, .inr (.inr (.inr (.inr (fun _ => none)))))) :: ([]))) ++ [(q2, .inr (1, [.int 0, .null, .null]))]) H := hP
  have hD : va_D A (((h0, .inr (8, [.int 0, .int 0, .null])) :: ([] ++ (q1, .inl (cA 2, 8, .inr (.inr (.inr (.inr (fun _ => none)))))) :: ([]))) ++ [(q2, .inr (1, [.int 0, .null, .null]))]) := hD
  refine lv_dup hx hb (pc := 25) (show decode cX8_init 25 = .ok (.dup, 1) by decide +kernel) rfl ?_
  refine g_ctor (ws := (h0, .inr (8, [.int 0, .int 0, .null])) :: ([] ++ (q1, .inl (cA 2, 8, .inr (.inr (.inr (.inr (fun _ => none)))))) :: ([]))) (own := RX8) (index := 20) (mL := 1) (F := 1) (mc := 2) (ms := 28) hx hb (hml.trans hl.1.symm) hown hts hK hO1 hO0 hP hD hS hA (gi_X1_init l cA D) (gWd_UW (w := 137) (by decide +kernel)) (gWd_UW (w := 59) (by decide +kernel)) (gWd_UW (w := 201) (by decide +kernel)) (gWd_UW (w := 136) (by decide +kernel)) rfl ⟨by decide +kernel, by decide +kernel, by decide +kernel⟩ ⟨Nat.le_of_ble_eq_true rfl, Nat.le_of_ble_eq_true rfl⟩ (show (5 : Nat) ≤ 8 by decide) (Nat.le_of_ble_eq_true rfl) (Nat.le_of_ble_eq_true rfl) (show decode cX8_init 26 = .ok (.invokespecial 20, 3) by decide +kernel) (fun u3 H locs hP hD hS => ?_)
  have hP : va_P D vwCl (((h0, .inr (8, [.int 0, .int 0, .null])) :: ([])) ++ (q1, .inl (cA 2, 8, .inr (.inr (.inr (.inr (fun _ => none)))))) :: ([] ++ gw_X1_init cA q2 u3)) H := hP
  have hD : va_D A (((h0, .inr (8, [.int 0, .int 0, .null])) :: ([])) ++ (q1, .inl (cA 2, 8, .inr (.inr (.inr (.inr (fun _ => none)))))) :: ([] ++ gw_X1_init cA q2 u3)) := hD
  refine g_aastL (ws := (h0, .inr (8, [.int 0, .int 0, .null])) :: ([])) (Y := [] ++ gw_X1_init cA q2 u3) (v := q2) (t0 := 2) (ci := 1) (r := (RX1, TX1, 3)) hx hb hK hP hD hS rfl rfl ⟨_, List.mem_append_right _ List.mem_cons_self⟩ (vp_in_iff.mpr (by decide)) (show decode cX8_init 29 = .ok (.aastore, 1) by decide +kernel) (fun H locs hP hD hS => ?_)
  have hP : va_P D vwCl ((h0, .inr (8, [.int 0, .int 0, .null])) :: ([] ++ (q1, .inl (cA 2, 8, .inr (.inr (.inr (.inr (va_up (fun _ => none) 0 (some q2))))))) :: ([] ++ gw_X1_init cA q2 u3))) H := hP
  have hD : va_D A ((h0, .inr (8, [.int 0, .int 0, .null])) :: ([] ++ (q1, .inl (cA 2, 8, .inr (.inr (.inr (.inr (va_up (fun _ => none) 0 (some q2))))))) :: ([] ++ gw_X1_init cA q2 u3))) := hD
  generalize hy4 : ([] ++ gw_X1_init cA q2 u3 : va_W) = y4 at hP hD
  generalize hf5 : ((va_up (fun _ => none) 0 (some q2)) : Nat → Option Nat) = f5 at hP hD
  refine lv_dup hx hb (pc := 30) (show decode cX8_init 30 = .ok (.dup, 1) by decide +kernel) rfl ?_
  refine lv_iconst hx hb (pc := 31) (n := 1) (v := 1) (show decode cX8_init 31 = .ok (.iconst 1, 1) by decide +kernel) (by decide) ?_
  refine va_new (ci := 1) (fs := [.int 0, .null, .null]) (C := RX1) (T := TX1) (N := 3) hx hb hts (gCls_in 1 _ rfl) tyX1 tyX1_ok hown (hts _ (gWd_UW (w := 199) (by decide +kernel))) (hts _ (gWd_UW (w := 134) (by decide +kernel))) (hts _ (gWd_UW (w := 59) (by decide +kernel))) hK hP hD hS hA rfl (by decide) (Nat.le_of_ble_eq_true rfl) (Nat.le_of_ble_eq_true rfl) (show decode cX8_init 32 = .ok (.new 18, 3) by decide +kernel) (fun q6 H hP hD hS => ?_)
  have hP : va_P D vwCl (((h0, .inr (8, [.int 0, .int 0, .null])) :: ([] ++ (q1, .inl (cA 2, 8, .inr (.inr (.inr (.inr f5))))) :: (y4))) ++ [(q6, .inr (1, [.int 0, .null, .null]))]) H := hP
  have hD : va_D A (((h0, .inr (8, [.int 0, .int 0, .null])) :: ([] ++ (q1, .inl (cA 2, 8, .inr (.inr (.inr (.inr f5))))) :: (y4))) ++ [(q6, .inr (1, [.int 0, .null, .null]))]) := hD
  refine lv_dup hx hb (pc := 35) (show decode cX8_init 35 = .ok (.dup, 1) by decide +kernel) rfl ?_
  refine g_ctor (ws := (h0, .inr (8, [.int 0, .int 0, .null])) :: ([] ++ (q1, .inl (cA 2, 8, .inr (.inr (.inr (.inr f5))))) :: (y4))) (own := RX8) (index := 20) (mL := 1) (F := 1) (mc := 2) (ms := 28) hx hb (hml.trans hl.1.symm) hown hts hK hO1 hO0 hP hD hS hA (gi_X1_init l cA D) (gWd_UW (w := 137) (by decide +kernel)) (gWd_UW (w := 59) (by decide +kernel)) (gWd_UW (w := 201) (by decide +kernel)) (gWd_UW (w := 136) (by decide +kernel)) rfl ⟨by decide +kernel, by decide +kernel, by decide +kernel⟩ ⟨Nat.le_of_ble_eq_true rfl, Nat.le_of_ble_eq_true rfl⟩ (show (5 : Nat) ≤ 8 by decide) (Nat.le_of_ble_eq_true rfl) (Nat.le_of_ble_eq_true rfl) (show decode cX8_init 36 = .ok (.invokespecial 20, 3) by decide +kernel) (fun u7 H locs hP hD hS => ?_)
  have hP : va_P D vwCl (((h0, .inr (8, [.int 0, .int 0, .null])) :: ([])) ++ (q1, .inl (cA 2, 8, .inr (.inr (.inr (.inr f5))))) :: (y4 ++ gw_X1_init cA q6 u7)) H := hP
  have hD : va_D A (((h0, .inr (8, [.int 0, .int 0, .null])) :: ([])) ++ (q1, .inl (cA 2, 8, .inr (.inr (.inr (.inr f5))))) :: (y4 ++ gw_X1_init cA q6 u7)) := hD
  refine g_aastL (ws := (h0, .inr (8, [.int 0, .int 0, .null])) :: ([])) (Y := y4 ++ gw_X1_init cA q6 u7) (v := q6) (t0 := 2) (ci := 1) (r := (RX1, TX1, 3)) hx hb hK hP hD hS rfl rfl ⟨_, List.mem_append_right _ List.mem_cons_self⟩ (vp_in_iff.mpr (by decide)) (show decode cX8_init 39 = .ok (.aastore, 1) by decide +kernel) (fun H locs hP hD hS => ?_)
  have hP : va_P D vwCl ((h0, .inr (8, [.int 0, .int 0, .null])) :: ([] ++ (q1, .inl (cA 2, 8, .inr (.inr (.inr (.inr (va_up f5 1 (some q6))))))) :: (y4 ++ gw_X1_init cA q6 u7))) H := hP
  have hD : va_D A ((h0, .inr (8, [.int 0, .int 0, .null])) :: ([] ++ (q1, .inl (cA 2, 8, .inr (.inr (.inr (.inr (va_up f5 1 (some q6))))))) :: (y4 ++ gw_X1_init cA q6 u7))) := hD
  generalize hy8 : (y4 ++ gw_X1_init cA q6 u7 : va_W) = y8 at hP hD
  generalize hf9 : ((va_up f5 1 (some q6)) : Nat → Option Nat) = f9 at hP hD
  refine lv_dup hx hb (pc := 40) (show decode cX8_init 40 = .ok (.dup, 1) by decide +kernel) rfl ?_
  refine lv_iconst hx hb (pc := 41) (n := 2) (v := 2) (show decode cX8_init 41 = .ok (.iconst 2, 1) by decide +kernel) (by decide) ?_
  refine va_new (ci := 1) (fs := [.int 0, .null, .null]) (C := RX1) (T := TX1) (N := 3) hx hb hts (gCls_in 1 _ rfl) tyX1 tyX1_ok hown (hts _ (gWd_UW (w := 199) (by decide +kernel))) (hts _ (gWd_UW (w := 134) (by decide +kernel))) (hts _ (gWd_UW (w := 59) (by decide +kernel))) hK hP hD hS hA rfl (by decide) (Nat.le_of_ble_eq_true rfl) (Nat.le_of_ble_eq_true rfl) (show decode cX8_init 42 = .ok (.new 18, 3) by decide +kernel) (fun q10 H hP hD hS => ?_)
  have hP : va_P D vwCl (((h0, .inr (8, [.int 0, .int 0, .null])) :: ([] ++ (q1, .inl (cA 2, 8, .inr (.inr (.inr (.inr f9))))) :: (y8))) ++ [(q10, .inr (1, [.int 0, .null, .null]))]) H := hP
  have hD : va_D A (((h0, .inr (8, [.int 0, .int 0, .null])) :: ([] ++ (q1, .inl (cA 2, 8, .inr (.inr (.inr (.inr f9))))) :: (y8))) ++ [(q10, .inr (1, [.int 0, .null, .null]))]) := hD
  refine lv_dup hx hb (pc := 45) (show decode cX8_init 45 = .ok (.dup, 1) by decide +kernel) rfl ?_
  refine g_ctor (ws := (h0, .inr (8, [.int 0, .int 0, .null])) :: ([] ++ (q1, .inl (cA 2, 8, .inr (.inr (.inr (.inr f9))))) :: (y8))) (own := RX8) (index := 20) (mL := 1) (F := 1) (mc := 2) (ms := 28) hx hb (hml.trans hl.1.symm) hown hts hK hO1 hO0 hP hD hS hA (gi_X1_init l cA D) (gWd_UW (w := 137) (by decide +kernel)) (gWd_UW (w := 59) (by decide +kernel)) (gWd_UW (w := 201) (by decide +kernel)) (gWd_UW (w := 136) (by decide +kernel)) rfl ⟨by decide +kernel, by decide +kernel, by decide +kernel⟩ ⟨Nat.le_of_ble_eq_true rfl, Nat.le_of_ble_eq_true rfl⟩ (show (5 : Nat) ≤ 8 by decide) (Nat.le_of_ble_eq_true rfl) (Nat.le_of_ble_eq_true rfl) (show decode cX8_init 46 = .ok (.invokespecial 20, 3) by decide +kernel) (fun u11 H locs hP hD hS => ?_)
  have hP : va_P D vwCl (((h0, .inr (8, [.int 0, .int 0, .null])) :: ([])) ++ (q1, .inl (cA 2, 8, .inr (.inr (.inr (.inr f9))))) :: (y8 ++ gw_X1_init cA q10 u11)) H := hP
  have hD : va_D A (((h0, .inr (8, [.int 0, .int 0, .null])) :: ([])) ++ (q1, .inl (cA 2, 8, .inr (.inr (.inr (.inr f9))))) :: (y8 ++ gw_X1_init cA q10 u11)) := hD
  refine g_aastL (ws := (h0, .inr (8, [.int 0, .int 0, .null])) :: ([])) (Y := y8 ++ gw_X1_init cA q10 u11) (v := q10) (t0 := 2) (ci := 1) (r := (RX1, TX1, 3)) hx hb hK hP hD hS rfl rfl ⟨_, List.mem_append_right _ List.mem_cons_self⟩ (vp_in_iff.mpr (by decide)) (show decode cX8_init 49 = .ok (.aastore, 1) by decide +kernel) (fun H locs hP hD hS => ?_)
  have hP : va_P D vwCl ((h0, .inr (8, [.int 0, .int 0, .null])) :: ([] ++ (q1, .inl (cA 2, 8, .inr (.inr (.inr (.inr (va_up f9 2 (some q10))))))) :: (y8 ++ gw_X1_init cA q10 u11))) H := hP
  have hD : va_D A ((h0, .inr (8, [.int 0, .int 0, .null])) :: ([] ++ (q1, .inl (cA 2, 8, .inr (.inr (.inr (.inr (va_up f9 2 (some q10))))))) :: (y8 ++ gw_X1_init cA q10 u11))) := hD
  generalize hy12 : (y8 ++ gw_X1_init cA q10 u11 : va_W) = y12 at hP hD
  generalize hf13 : ((va_up f9 2 (some q10)) : Nat → Option Nat) = f13 at hP hD
  refine lv_dup hx hb (pc := 50) (show decode cX8_init 50 = .ok (.dup, 1) by decide +kernel) rfl ?_
  refine lv_iconst hx hb (pc := 51) (n := 3) (v := 3) (show decode cX8_init 51 = .ok (.iconst 3, 1) by decide +kernel) (by decide) ?_
  refine va_new (ci := 1) (fs := [.int 0, .null, .null]) (C := RX1) (T := TX1) (N := 3) hx hb hts (gCls_in 1 _ rfl) tyX1 tyX1_ok hown (hts _ (gWd_UW (w := 199) (by decide +kernel))) (hts _ (gWd_UW (w := 134) (by decide +kernel))) (hts _ (gWd_UW (w := 59) (by decide +kernel))) hK hP hD hS hA rfl (by decide) (Nat.le_of_ble_eq_true rfl) (Nat.le_of_ble_eq_true rfl) (show decode cX8_init 52 = .ok (.new 18, 3) by decide +kernel) (fun q14 H hP hD hS => ?_)
  have hP : va_P D vwCl (((h0, .inr (8, [.int 0, .int 0, .null])) :: ([] ++ (q1, .inl (cA 2, 8, .inr (.inr (.inr (.inr f13))))) :: (y12))) ++ [(q14, .inr (1, [.int 0, .null, .null]))]) H := hP
  have hD : va_D A (((h0, .inr (8, [.int 0, .int 0, .null])) :: ([] ++ (q1, .inl (cA 2, 8, .inr (.inr (.inr (.inr f13))))) :: (y12))) ++ [(q14, .inr (1, [.int 0, .null, .null]))]) := hD
  refine lv_dup hx hb (pc := 55) (show decode cX8_init 55 = .ok (.dup, 1) by decide +kernel) rfl ?_
  refine g_ctor (ws := (h0, .inr (8, [.int 0, .int 0, .null])) :: ([] ++ (q1, .inl (cA 2, 8, .inr (.inr (.inr (.inr f13))))) :: (y12))) (own := RX8) (index := 20) (mL := 1) (F := 1) (mc := 2) (ms := 28) hx hb (hml.trans hl.1.symm) hown hts hK hO1 hO0 hP hD hS hA (gi_X1_init l cA D) (gWd_UW (w := 137) (by decide +kernel)) (gWd_UW (w := 59) (by decide +kernel)) (gWd_UW (w := 201) (by decide +kernel)) (gWd_UW (w := 136) (by decide +kernel)) rfl ⟨by decide +kernel, by decide +kernel, by decide +kernel⟩ ⟨Nat.le_of_ble_eq_true rfl, Nat.le_of_ble_eq_true rfl⟩ (show (5 : Nat) ≤ 8 by decide) (Nat.le_of_ble_eq_true rfl) (Nat.le_of_ble_eq_true rfl) (show decode cX8_init 56 = .ok (.invokespecial 20, 3) by decide +kernel) (fun u15 H locs hP hD hS => ?_)
  have hP : va_P D vwCl (((h0, .inr (8, [.int 0, .int 0, .null])) :: ([])) ++ (q1, .inl (cA 2, 8, .inr (.inr (.inr (.inr f13))))) :: (y12 ++ gw_X1_init cA q14 u15)) H := hP
  have hD : va_D A (((h0, .inr (8, [.int 0, .int 0, .null])) :: ([])) ++ (q1, .inl (cA 2, 8, .inr (.inr (.inr (.inr f13))))) :: (y12 ++ gw_X1_init cA q14 u15)) := hD
  refine g_aastL (ws := (h0, .inr (8, [.int 0, .int 0, .null])) :: ([])) (Y := y12 ++ gw_X1_init cA q14 u15) (v := q14) (t0 := 2) (ci := 1) (r := (RX1, TX1, 3)) hx hb hK hP hD hS rfl rfl ⟨_, List.mem_append_right _ List.mem_cons_self⟩ (vp_in_iff.mpr (by decide)) (show decode cX8_init 59 = .ok (.aastore, 1) by decide +kernel) (fun H locs hP hD hS => ?_)
  have hP : va_P D vwCl ((h0, .inr (8, [.int 0, .int 0, .null])) :: ([] ++ (q1, .inl (cA 2, 8, .inr (.inr (.inr (.inr (va_up f13 3 (some q14))))))) :: (y12 ++ gw_X1_init cA q14 u15))) H := hP
  have hD : va_D A ((h0, .inr (8, [.int 0, .int 0, .null])) :: ([] ++ (q1, .inl (cA 2, 8, .inr (.inr (.inr (.inr (va_up f13 3 (some q14))))))) :: (y12 ++ gw_X1_init cA q14 u15))) := hD
  generalize hy16 : (y12 ++ gw_X1_init cA q14 u15 : va_W) = y16 at hP hD
  generalize hf17 : ((va_up f13 3 (some q14)) : Nat → Option Nat) = f17 at hP hD
  refine lv_dup hx hb (pc := 60) (show decode cX8_init 60 = .ok (.dup, 1) by decide +kernel) rfl ?_
  refine lv_iconst hx hb (pc := 61) (n := 4) (v := 4) (show decode cX8_init 61 = .ok (.iconst 4, 1) by decide +kernel) (by decide) ?_
  refine va_new (ci := 1) (fs := [.int 0, .null, .null]) (C := RX1) (T := TX1) (N := 3) hx hb hts (gCls_in 1 _ rfl) tyX1 tyX1_ok hown (hts _ (gWd_UW (w := 199) (by decide +kernel))) (hts _ (gWd_UW (w := 134) (by decide +kernel))) (hts _ (gWd_UW (w := 59) (by decide +kernel))) hK hP hD hS hA rfl (by decide) (Nat.le_of_ble_eq_true rfl) (Nat.le_of_ble_eq_true rfl) (show decode cX8_init 62 = .ok (.new 18, 3) by decide +kernel) (fun q18 H hP hD hS => ?_)
  have hP : va_P D vwCl (((h0, .inr (8, [.int 0, .int 0, .null])) :: ([] ++ (q1, .inl (cA 2, 8, .inr (.inr (.inr (.inr f17))))) :: (y16))) ++ [(q18, .inr (1, [.int 0, .null, .null]))]) H := hP
  have hD : va_D A (((h0, .inr (8, [.int 0, .int 0, .null])) :: ([] ++ (q1, .inl (cA 2, 8, .inr (.inr (.inr (.inr f17))))) :: (y16))) ++ [(q18, .inr (1, [.int 0, .null, .null]))]) := hD
  refine lv_dup hx hb (pc := 65) (show decode cX8_init 65 = .ok (.dup, 1) by decide +kernel) rfl ?_
  refine g_ctor (ws := (h0, .inr (8, [.int 0, .int 0, .null])) :: ([] ++ (q1, .inl (cA 2, 8, .inr (.inr (.inr (.inr f17))))) :: (y16))) (own := RX8) (index := 20) (mL := 1) (F := 1) (mc := 2) (ms := 28) hx hb (hml.trans hl.1.symm) hown hts hK hO1 hO0 hP hD hS hA (gi_X1_init l cA D) (gWd_UW (w := 137) (by decide +kernel)) (gWd_UW (w := 59) (by decide +kernel)) (gWd_UW (w := 201) (by decide +kernel)) (gWd_UW (w := 136) (by decide +kernel)) rfl ⟨by decide +kernel, by decide +kernel, by decide +kernel⟩ ⟨Nat.le_of_ble_eq_true rfl, Nat.le_of_ble_eq_true rfl⟩ (show (5 : Nat) ≤ 8 by decide) (Nat.le_of_ble_eq_true rfl) (Nat.le_of_ble_eq_true rfl) (show decode cX8_init 66 = .ok (.invokespecial 20, 3) by decide +kernel) (fun u19 H locs hP hD hS => ?_)
  have hP : va_P D vwCl (((h0, .inr (8, [.int 0, .int 0, .null])) :: ([])) ++ (q1, .inl (cA 2, 8, .inr (.inr (.inr (.inr f17))))) :: (y16 ++ gw_X1_init cA q18 u19)) H := hP
  have hD : va_D A (((h0, .inr (8, [.int 0, .int 0, .null])) :: ([])) ++ (q1, .inl (cA 2, 8, .inr (.inr (.inr (.inr f17))))) :: (y16 ++ gw_X1_init cA q18 u19)) := hD
  refine g_aastL (ws := (h0, .inr (8, [.int 0, .int 0, .null])) :: ([])) (Y := y16 ++ gw_X1_init cA q18 u19) (v := q18) (t0 := 2) (ci := 1) (r := (RX1, TX1, 3)) hx hb hK hP hD hS rfl rfl ⟨_, List.mem_append_right _ List.mem_cons_self⟩ (vp_in_iff.mpr (by decide)) (show decode cX8_init 69 = .ok (.aastore, 1) by decide +kernel) (fun H locs hP hD hS => ?_)
  have hP : va_P D vwCl ((h0, .inr (8, [.int 0, .int 0, .null])) :: ([] ++ (q1, .inl (cA 2, 8, .inr (.inr (.inr (.inr (va_up f17 4 (some q18))))))) :: (y16 ++ gw_X1_init cA q18 u19))) H := hP
  have hD : va_D A ((h0, .inr (8, [.int 0, .int 0, .null])) :: ([] ++ (q1, .inl (cA 2, 8, .inr (.inr (.inr (.inr (va_up f17 4 (some q18))))))) :: (y16 ++ gw_X1_init cA q18 u19))) := hD
  generalize hy20 : (y16 ++ gw_X1_init cA q18 u19 : va_W) = y20 at hP hD
  generalize hf21 : ((va_up f17 4 (some q18)) : Nat → Option Nat) = f21 at hP hD
  refine lv_dup hx hb (pc := 70) (show decode cX8_init 70 = .ok (.dup, 1) by decide +kernel) rfl ?_
  refine lv_iconst hx hb (pc := 71) (n := 5) (v := 5) (show decode cX8_init 71 = .ok (.iconst 5, 1) by decide +kernel) (by decide) ?_
  refine va_new (ci := 1) (fs := [.int 0, .null, .null]) (C := RX1) (T := TX1) (N := 3) hx hb hts (gCls_in 1 _ rfl) tyX1 tyX1_ok hown (hts _ (gWd_UW (w := 199) (by decide +kernel))) (hts _ (gWd_UW (w := 134) (by decide +kernel))) (hts _ (gWd_UW (w := 59) (by decide +kernel))) hK hP hD hS hA rfl (by decide) (Nat.le_of_ble_eq_true rfl) (Nat.le_of_ble_eq_true rfl) (show decode cX8_init 72 = .ok (.new 18, 3) by decide +kernel) (fun q22 H hP hD hS => ?_)
  have hP : va_P D vwCl (((h0, .inr (8, [.int 0, .int 0, .null])) :: ([] ++ (q1, .inl (cA 2, 8, .inr (.inr (.inr (.inr f21))))) :: (y20))) ++ [(q22, .inr (1, [.int 0, .null, .null]))]) H := hP
  have hD : va_D A (((h0, .inr (8, [.int 0, .int 0, .null])) :: ([] ++ (q1, .inl (cA 2, 8, .inr (.inr (.inr (.inr f21))))) :: (y20))) ++ [(q22, .inr (1, [.int 0, .null, .null]))]) := hD
  refine lv_dup hx hb (pc := 75) (show decode cX8_init 75 = .ok (.dup, 1) by decide +kernel) rfl ?_
  refine g_ctor (ws := (h0, .inr (8, [.int 0, .int 0, .null])) :: ([] ++ (q1, .inl (cA 2, 8, .inr (.inr (.inr (.inr f21))))) :: (y20))) (own := RX8) (index := 20) (mL := 1) (F := 1) (mc := 2) (ms := 28) hx hb (hml.trans hl.1.symm) hown hts hK hO1 hO0 hP hD hS hA (gi_X1_init l cA D) (gWd_UW (w := 137) (by decide +kernel)) (gWd_UW (w := 59) (by decide +kernel)) (gWd_UW (w := 201) (by decide +kernel)) (gWd_UW (w := 136) (by decide +kernel)) rfl ⟨by decide +kernel, by decide +kernel, by decide +kernel⟩ ⟨Nat.le_of_ble_eq_true rfl, Nat.le_of_ble_eq_true rfl⟩ (show (5 : Nat) ≤ 8 by decide) (Nat.le_of_ble_eq_true rfl) (Nat.le_of_ble_eq_true rfl) (show decode cX8_init 76 = .ok (.invokespecial 20, 3) by decide +kernel) (fun u23 H locs hP hD hS => ?_)
  have hP : va_P D vwCl (((h0, .inr (8, [.int 0, .int 0, .null])) :: ([])) ++ (q1, .inl (cA 2, 8, .inr (.inr (.inr (.inr f21))))) :: (y20 ++ gw_X1_init cA q22 u23)) H := hP
  have hD : va_D A (((h0, .inr (8, [.int 0, .int 0, .null])) :: ([])) ++ (q1, .inl (cA 2, 8, .inr (.inr (.inr (.inr f21))))) :: (y20 ++ gw_X1_init cA q22 u23)) := hD
  refine g_aastL (ws := (h0, .inr (8, [.int 0, .int 0, .null])) :: ([])) (Y := y20 ++ gw_X1_init cA q22 u23) (v := q22) (t0 := 2) (ci := 1) (r := (RX1, TX1, 3)) hx hb hK hP hD hS rfl rfl ⟨_, List.mem_append_right _ List.mem_cons_self⟩ (vp_in_iff.mpr (by decide)) (show decode cX8_init 79 = .ok (.aastore, 1) by decide +kernel) (fun H locs hP hD hS => ?_)
  have hP : va_P D vwCl ((h0, .inr (8, [.int 0, .int 0, .null])) :: ([] ++ (q1, .inl (cA 2, 8, .inr (.inr (.inr (.inr (va_up f21 5 (some q22))))))) :: (y20 ++ gw_X1_init cA q22 u23))) H := hP
  have hD : va_D A ((h0, .inr (8, [.int 0, .int 0, .null])) :: ([] ++ (q1, .inl (cA 2, 8, .inr (.inr (.inr (.inr (va_up f21 5 (some q22))))))) :: (y20 ++ gw_X1_init cA q22 u23))) := hD
  generalize hy24 : (y20 ++ gw_X1_init cA q22 u23 : va_W) = y24 at hP hD
  generalize hf25 : ((va_up f21 5 (some q22)) : Nat → Option Nat) = f25 at hP hD
  refine lv_dup hx hb (pc := 80) (show decode cX8_init 80 = .ok (.dup, 1) by decide +kernel) rfl ?_
  refine lv_bipush hx hb (pc := 81) (n := 6) (v := 6) (show decode cX8_init 81 = .ok (.bipush 6, 2) by decide +kernel) (by decide) ?_
  refine va_new (ci := 1) (fs := [.int 0, .null, .null]) (C := RX1) (T := TX1) (N := 3) hx hb hts (gCls_in 1 _ rfl) tyX1 tyX1_ok hown (hts _ (gWd_UW (w := 199) (by decide +kernel))) (hts _ (gWd_UW (w := 134) (by decide +kernel))) (hts _ (gWd_UW (w := 59) (by decide +kernel))) hK hP hD hS hA rfl (by decide) (Nat.le_of_ble_eq_true rfl) (Nat.le_of_ble_eq_true rfl) (show decode cX8_init 83 = .ok (.new 18, 3) by decide +kernel) (fun q26 H hP hD hS => ?_)
  have hP : va_P D vwCl (((h0, .inr (8, [.int 0, .int 0, .null])) :: ([] ++ (q1, .inl (cA 2, 8, .inr (.inr (.inr (.inr f25))))) :: (y24))) ++ [(q26, .inr (1, [.int 0, .null, .null]))]) H := hP
  have hD : va_D A (((h0, .inr (8, [.int 0, .int 0, .null])) :: ([] ++ (q1, .inl (cA 2, 8, .inr (.inr (.inr (.inr f25))))) :: (y24))) ++ [(q26, .inr (1, [.int 0, .null, .null]))]) := hD
  refine lv_dup hx hb (pc := 86) (show decode cX8_init 86 = .ok (.dup, 1) by decide +kernel) rfl ?_
  refine g_ctor (ws := (h0, .inr (8, [.int 0, .int 0, .null])) :: ([] ++ (q1, .inl (cA 2, 8, .inr (.inr (.inr (.inr f25))))) :: (y24))) (own := RX8) (index := 20) (mL := 1) (F := 1) (mc := 2) (ms := 28) hx hb (hml.trans hl.1.symm) hown hts hK hO1 hO0 hP hD hS hA (gi_X1_init l cA D) (gWd_UW (w := 137) (by decide +kernel)) (gWd_UW (w := 59) (by decide +kernel)) (gWd_UW (w := 201) (by decide +kernel)) (gWd_UW (w := 136) (by decide +kernel)) rfl ⟨by decide +kernel, by decide +kernel, by decide +kernel⟩ ⟨Nat.le_of_ble_eq_true rfl, Nat.le_of_ble_eq_true rfl⟩ (show (5 : Nat) ≤ 8 by decide) (Nat.le_of_ble_eq_true rfl) (Nat.le_of_ble_eq_true rfl) (show decode cX8_init 87 = .ok (.invokespecial 20, 3) by decide +kernel) (fun u27 H locs hP hD hS => ?_)
  have hP : va_P D vwCl (((h0, .inr (8, [.int 0, .int 0, .null])) :: ([])) ++ (q1, .inl (cA 2, 8, .inr (.inr (.inr (.inr f25))))) :: (y24 ++ gw_X1_init cA q26 u27)) H := hP
  have hD : va_D A (((h0, .inr (8, [.int 0, .int 0, .null])) :: ([])) ++ (q1, .inl (cA 2, 8, .inr (.inr (.inr (.inr f25))))) :: (y24 ++ gw_X1_init cA q26 u27)) := hD
  refine g_aastL (ws := (h0, .inr (8, [.int 0, .int 0, .null])) :: ([])) (Y := y24 ++ gw_X1_init cA q26 u27) (v := q26) (t0 := 2) (ci := 1) (r := (RX1, TX1, 3)) hx hb hK hP hD hS rfl rfl ⟨_, List.mem_append_right _ List.mem_cons_self⟩ (vp_in_iff.mpr (by decide)) (show decode cX8_init 90 = .ok (.aastore, 1) by decide +kernel) (fun H locs hP hD hS => ?_)
  have hP : va_P D vwCl ((h0, .inr (8, [.int 0, .int 0, .null])) :: ([] ++ (q1, .inl (cA 2, 8, .inr (.inr (.inr (.inr (va_up f25 6 (some q26))))))) :: (y24 ++ gw_X1_init cA q26 u27))) H := hP
  have hD : va_D A ((h0, .inr (8, [.int 0, .int 0, .null])) :: ([] ++ (q1, .inl (cA 2, 8, .inr (.inr (.inr (.inr (va_up f25 6 (some q26))))))) :: (y24 ++ gw_X1_init cA q26 u27))) := hD
  generalize hy28 : (y24 ++ gw_X1_init cA q26 u27 : va_W) = y28 at hP hD
  generalize hf29 : ((va_up f25 6 (some q26)) : Nat → Option Nat) = f29 at hP hD
  refine lv_dup hx hb (pc := 91) (show decode cX8_init 91 = .ok (.dup, 1) by decide +kernel) rfl ?_
  refine lv_bipush hx hb (pc := 92) (n := 7) (v := 7) (show decode cX8_init 92 = .ok (.bipush 7, 2) by decide +kernel) (by decide) ?_
  refine va_new (ci := 1) (fs := [.int 0, .null, .null]) (C := RX1) (T := TX1) (N := 3) hx hb hts (gCls_in 1 _ rfl) tyX1 tyX1_ok hown (hts _ (gWd_UW (w := 199) (by decide +kernel))) (hts _ (gWd_UW (w := 134) (by decide +kernel))) (hts _ (gWd_UW (w := 59) (by decide +kernel))) hK hP hD hS hA rfl (by decide) (Nat.le_of_ble_eq_true rfl) (Nat.le_of_ble_eq_true rfl) (show decode cX8_init 94 = .ok (.new 18, 3) by decide +kernel) (fun q30 H hP hD hS => ?_)
  have hP : va_P D vwCl (((h0, .inr (8, [.int 0, .int 0, .null])) :: ([] ++ (q1, .inl (cA 2, 8, .inr (.inr (.inr (.inr f29))))) :: (y28))) ++ [(q30, .inr (1, [.int 0, .null, .null]))]) H := hP
  have hD : va_D A (((h0, .inr (8, [.int 0, .int 0, .null])) :: ([] ++ (q1, .inl (cA 2, 8, .inr (.inr (.inr (.inr f29))))) :: (y28))) ++ [(q30, .inr (1, [.int 0, .null, .null]))]) := hD
  refine lv_dup hx hb (pc := 97) (show decode cX8_init 97 = .ok (.dup, 1) by decide +kernel) rfl ?_
  refine g_ctor (ws := (h0, .inr (8, [.int 0, .int 0, .null])) :: ([] ++ (q1, .inl (cA 2, 8, .inr (.inr (.inr (.inr f29))))) :: (y28))) (own := RX8) (index := 20) (mL := 1) (F := 1) (mc := 2) (ms := 28) hx hb (hml.trans hl.1.symm) hown hts hK hO1 hO0 hP hD hS hA (gi_X1_init l cA D) (gWd_UW (w := 137) (by decide +kernel)) (gWd_UW (w := 59) (by decide +kernel)) (gWd_UW (w := 201) (by decide +kernel)) (gWd_UW (w := 136) (by decide +kernel)) rfl ⟨by decide +kernel, by decide +kernel, by decide +kernel⟩ ⟨Nat.le_of_ble_eq_true rfl, Nat.le_of_ble_eq_true rfl⟩ (show (5 : Nat) ≤ 8 by decide) (Nat.le_of_ble_eq_true rfl) (Nat.le_of_ble_eq_true rfl) (show decode cX8_init 98 = .ok (.invokespecial 20, 3) by decide +kernel) (fun u31 H locs hP hD hS => ?_)
  have hP : va_P D vwCl (((h0, .inr (8, [.int 0, .int 0, .null])) :: ([])) ++ (q1, .inl (cA 2, 8, .inr (.inr (.inr (.inr f29))))) :: (y28 ++ gw_X1_init cA q30 u31)) H := hP
  have hD : va_D A (((h0, .inr (8, [.int 0, .int 0, .null])) :: ([])) ++ (q1, .inl (cA 2, 8, .inr (.inr (.inr (.inr f29))))) :: (y28 ++ gw_X1_init cA q30 u31)) := hD
  refine g_aastL (ws := (h0, .inr (8, [.int 0, .int 0, .null])) :: ([])) (Y := y28 ++ gw_X1_init cA q30 u31) (v := q30) (t0 := 2) (ci := 1) (r := (RX1, TX1, 3)) hx hb hK hP hD hS rfl rfl ⟨_, List.mem_append_right _ List.mem_cons_self⟩ (vp_in_iff.mpr (by decide)) (show decode cX8_init 101 = .ok (.aastore, 1) by decide +kernel) (fun H locs hP hD hS => ?_)
  have hP : va_P D vwCl ((h0, .inr (8, [.int 0, .int 0, .null])) :: ([] ++ (q1, .inl (cA 2, 8, .inr (.inr (.inr (.inr (va_up f29 7 (some q30))))))) :: (y28 ++ gw_X1_init cA q30 u31))) H := hP
  have hD : va_D A ((h0, .inr (8, [.int 0, .int 0, .null])) :: ([] ++ (q1, .inl (cA 2, 8, .inr (.inr (.inr (.inr (va_up f29 7 (some q30))))))) :: (y28 ++ gw_X1_init cA q30 u31))) := hD
  generalize hy32 : (y28 ++ gw_X1_init cA q30 u31 : va_W) = y32 at hP hD
  generalize hf33 : ((va_up f29 7 (some q30)) : Nat → Option Nat) = f33 at hP hD
  have hP : va_P D vwCl ((h0, .inr (8, [.int 0, .int 0, .null])) :: ([] ++ (q1, .inl (cA 2, 8, .inr (.inr (.inr (.inr f33))))) :: (y32))) H := hP
  have hD : va_D A ((h0, .inr (8, [.int 0, .int 0, .null])) :: ([] ++ (q1, .inl (cA 2, 8, .inr (.inr (.inr (.inr f33))))) :: (y32))) := hD
  generalize hch34 : ([] ++ (q1, .inl (cA 2, 8, .inr (.inr (.inr (.inr f33))))) :: (y32) : va_W) = ch34 at hP hD
  refine va_putF (D := D) (ci := 8) (v := .ref q1) (ty := .array (.object "GriefDoors$Griefs")) (C := RX8) (T := TX8) (N := 3) hx hb hts (gCls_in 8 _ rfl) tyX8 tyX8_ok nmX8 hown hK hP hD hS 0 rfl rfl 2 (by decide) (hts _ (gWd_UW (w := 205) (by decide +kernel))) (fun _ h9 => h9) rfl hin rfl (by decide +kernel) rfl rfl (Nat.le_of_ble_eq_true rfl) (show decode cX8_init 102 = .ok (.putfield 21, 3) by decide +kernel) (fun H locs hP hD hS => ?_)
  have hP : va_P D vwCl ((h0, .inr (8, [.int 0, .int 0, .ref q1])) :: (ch34)) H := hP
  have hD : va_D A ((h0, .inr (8, [.int 0, .int 0, .ref q1])) :: (ch34)) := hD
  refine W.widen (k := 25) (n := 256) (Nat.le_of_ble_eq_true rfl) (Nat.le_of_ble_eq_true rfl) ?_
  subst hch34
  subst hf33
  subst hy32
  subst hf29
  subst hy28
  subst hf25
  subst hy24
  subst hf21
  subst hy20
  subst hf17
  subst hy16
  subst hf13
  subst hy12
  subst hf9
  subst hy8
  subst hf5
  subst hy4
  exact W.vret hx hb hr (fun t ht hW => ⟨⟨gAd [q1, q2, (u3 1), (u3 2), q6, (u7 1), (u7 2), q10, (u11 1), (u11 2), q14, (u15 1), (u15 2), q18, (u19 1), (u19 2), q22, (u23 1), (u23 2), q26, (u27 1), (u27 2), q30, (u31 1), (u31 2)], rfl, trivial, by rw [ht]; exact hP, va_K.moved hW.alike hK, hD⟩, hS.F ht⟩) hS.2.2 (show decode cX8_init 105 = .ok (.return_, 1) by decide +kernel) hlocks
