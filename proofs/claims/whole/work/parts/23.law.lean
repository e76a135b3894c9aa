-- 23: the law, over what the small machine says of it
def gLl (i : Int) : gL := [some (.inr (.inr 1001)), some (.inr (.inr 1)), some (.inr (.inr 82)), some (.inl i)]
noncomputable def gLaw (N d pc : Nat) (i : Int) (M : gM) : Option (Nat × gL × List gV × gM) := gSeg gLay (gEv N d) (fun _ _ => none) gC_L_law gH_L_law (fun pc ls st M => some (pc, ls, st, M)) 400 pc (gLl i) [] M
/-- what is owed of the small machine, and of nothing else: an invariant that holds at the start and over every call of the script; the law goes on, and comes to its end -/
def gOweLaw (N d : Nat) (Inv : gM → Prop) : Prop :=
  (∀ (L : Nat) (xs : Nat → Int32), L ≤ 3072 → Inv (gMi0 L xs)) ∧
  (∀ (L i : Nat) (M : gM), L ≤ 3072 → Inv M → M 1001 0 = (L : Int) → i + 6 ≤ L → ∃ M' : gM, gLaw N d 18 (i : Int) M = some (1136, gLl (i : Int), [], M') ∧ Inv M') ∧
  (∀ (L i : Nat) (M : gM), L ≤ 3072 → M 1001 0 = (L : Int) → L < i + 6 → i ≤ L → gLaw N d 18 (i : Int) M = some (1142, gLl (i : Int), [], M)) ∧
  (∀ (i : Nat) (M : gM), i ≤ 3072 → gLaw N d 1136 (i : Int) M = some (18, gLl ((i + 6 : Nat) : Int), [], M))
theorem gLaw_step {p : Program} {l : Launch} {e : Env} {s : State} {m : MethodId} {args : Array Value} {below : List Frame} {meth : Method} {c : Code} {Q : State → Prop} {cA : Nat → ClassId} {D : va_G} {ad adV : Nat → Nat} {A : Nat → Prop} {M0 : gM} {N d ce so : Nat} {pc pc' : Nat} {i i' : Int} {M M' : gM} (hF : gFx p room_1 s m args c cA D ad adV A M0 4 d ce so cL_law RL) (h : gLaw N d pc i M = some (pc', gLl i', [], M')) (k : gG p l e room_1 s m args below meth c Q cA D ad A M0 4 ce so pc' (gLl i') [] M') : gG p l e room_1 s m args below meth c Q cA D ad A M0 4 ce so pc (gLl i) [] M := by
  refine gSeg_sound (rt := some .boolean) (z := (pc', gLl i', [], M')) (gEv_sound gMi_code (gStr_owe l cA D ad adV) d) hF ⟨fun _ _ _ _ _ _ h => (by cases h), fun _ _ _ _ _ _ _ h => (by cases h), fun _ _ _ _ _ _ h => (by cases h), fun _ _ _ _ _ h => (by cases h)⟩ gkl (fun pc ls st M hB => ?_) 400 pc (gLl i) [] M h
  cases hB
  exact k
theorem gLaw_end {p : Program} {l : Launch} {e : Env} {s : State} {m : MethodId} {below : List Frame} {meth : Method} {c : Code} {cA : Nat → ClassId} {D : va_G} {ad adV : Nat → Nat} {M0 : gM} {d b : Nat} {i : Int} {M : gM} (hF : gFx p room_1 s m #[Value.ref b] c cA D ad adV (fun q : Nat => s.heap.size ≤ q) M0 4 d 600000 7302249 cL_law RL) (hr : meth.sig.returnType = ret) (hlocks : meth.locks = false) : gG p l e room_1 s m #[Value.ref b] below meth c (lw_Z below #[Value.ref b] s) cA D ad (fun q : Nat => s.heap.size ≤ q) M0 4 600000 7302249 1142 (gLl i) [] M := by
  intro H locs as hS
  refine lv_iconst (n := 1) (v := 1) hF.1 hF.2.1 (by decide +kernel) (by decide) ?_
  refine va_forget (fun q hq => hS.2.2.1.2.2 q hq) ?_
  exact lw_ret hF.1 hF.2.1 hr hlocks (show decode code 1143 = .ok (.ireturn, 1) by decide +kernel)
theorem gLaw_loop {p : Program} {l : Launch} {e : Env} {s : State} {m : MethodId} {below : List Frame} {meth : Method} {c : Code} {cA : Nat → ClassId} {D : va_G} {ad adV : Nat → Nat} {M0 : gM} {N d b L : Nat} {Inv : gM → Prop} (hO : gOweLaw N d Inv) (hL : L ≤ 3072) (h1 : M0 1001 0 = (L : Int)) (hF : gFx p room_1 s m #[Value.ref b] c cA D ad adV (fun q : Nat => s.heap.size ≤ q) M0 4 d 600000 7302249 cL_law RL) (hr : meth.sig.returnType = ret) (hlocks : meth.locks = false) : ∀ (n i : Nat) (M : gM), L < i + n → i ≤ L → Inv M → gG p l e room_1 s m #[Value.ref b] below meth c (lw_Z below #[Value.ref b] s) cA D ad (fun q : Nat => s.heap.size ≤ q) M0 4 600000 7302249 18 (gLl (i : Int)) [] M := by
  intro n
  induction n with
  | zero => intro i M h2 h3; omega
  | succ n ih =>
    intro i M h2 h3 hI H locs as hS
    have hM : M 1001 0 = (L : Int) := by rw [hS.2.2.2.2.2]; exact h1
    by_cases h6 : i + 6 ≤ L
    · obtain ⟨M', g1, g2⟩ := hO.2.1 L i M hL hI hM h6
      refine gLaw_step hF g1 ?_ H locs as hS
      refine gLaw_step hF (hO.2.2.2 i M' (by omega)) ?_
      exact ih (i + 6) M' (by omega) h6 g2
    · exact gLaw_step hF (hO.2.2.1 L i M hL hM (by omega) h3) (gLaw_end hF hr hlocks) H locs as hS
set_option maxHeartbeats 8000000 in
set_option maxRecDepth 100000 in
theorem whole_from {N d : Nat} {Inv : gM → Prop} (hO : gOweLaw N d Inv) (hd : d ≤ 1000) {p : Program} {e : Env} {s : State} {m : MethodId} {below : List Frame} {meth : Method} {c : Code} (l : Launch) (hflags : l.flags = flags0) {b L : Nat} {xs : Nat → Int32} (hL : L ≤ 3072) (C0 : lw_At p s m meth c b L xs) : W p l e room_1 s m #[Value.ref b] below meth c s.heap [] 0 0 (lw_Z below #[Value.ref b] s) (entryFrame m ([Value.ref b] : List Value).toArray 4) := by
  obtain ⟨hx, hb, hr, hml, hown, hts0, hX, hbl, hlocks, hgv⟩ := id C0
  have hts : ∀ w ∈ gUW, w.before #[Value.ref b] s = true := fun w hw => hts0 w (List.mem_filter.mp hw).1
  have hA : ∀ q : Nat, s.heap.size ≤ q → (fun q : Nat => s.heap.size ≤ q) q := fun _ h => h
  obtain ⟨D, hKc⟩ := gCls_of hts0
  have hO1 : va_AO RX1 s := va_AO.of (hts0 _ gN_tab.2.2.2.2.2.2.2.2.1)
  have hO0 : va_AO RX0 s := va_AO.of (hts0 _ gN_tab.2.2.2.2.2.2.2.2.2)
  obtain ⟨cA, hK⟩ := gTy_of (D := D) hts0 hKc hO1 hO0
  obtain ⟨ad0, adV, hb0, hsp⟩ := gSpc_start hL hts0 hX hbl hgv
  have hS : va_S (fun q : Nat => s.heap.size ≤ q) s.heap s.heap [] := va_S.rf
  have hP : va_P D vwCl [] s.heap := fun k q h => by simp at h
  have hD : va_D (fun q : Nat => s.heap.size ≤ q) [] := ⟨fun i j p q h => by simp at h, fun k q h => by simp at h⟩
  have hl := lv_entry ([.ref b]) (n := 4) (Nat.le_of_ble_eq_true rfl)
  rw [lg_entry_eq]
  generalize (lg_sl ([.ref b]) ++ List.replicate (4 - (lg_sl ([.ref b])).length) Slot.unset).toArray = ls at hl ⊢
  have hl : lv_has ls 4 [(0, .ref b)] := hl
  have hown2 : s.vm.findClass RL = some m.cls := hown
  refine va_new (ci := 9) (fs := [.null, .null, .null, .null, .null, .null, .null, .null, .null, .null, .null]) (C := RX9) (T := TX9) (N := 11) hx hb hts (gCls_in 9 _ rfl) tyX9 tyX9_ok hown2 (hts _ (gWd_UW (w := 73) (by decide +kernel))) (hts _ (gWd_UW (w := 74) (by decide +kernel))) (hts _ (gWd_UW (w := 56) (by decide +kernel))) hK hP hD hS hA rfl (by decide) (Nat.le_of_ble_eq_true rfl) (Nat.le_of_ble_eq_true rfl) (show decode code 0 = .ok (.new 7, 3) by decide +kernel) (fun q0 H hP hD hS => ?_)
  have hP : va_P D vwCl ([] ++ [(q0, .inr (9, [.null, .null, .null, .null, .null, .null, .null, .null, .null, .null, .null]))]) H := hP
  have hD : va_D (fun q : Nat => s.heap.size ≤ q) ([] ++ [(q0, .inr (9, [.null, .null, .null, .null, .null, .null, .null, .null, .null, .null, .null]))]) := hD
  refine lv_dup hx hb (show decode code 3 = .ok (.dup, 1) by decide +kernel) rfl ?_
  refine g_ctor (ws := []) (own := RL) (index := 9) (mL := 1) (F := 3) (mc := 80) (ms := 1234) hx hb (hml.trans hl.1.symm) hown2 hts hK hO1 hO0 hP hD hS hA (gi_X9_init l cA D) (gWd_UW (w := 77) (by decide +kernel)) (gWd_UW (w := 56) (by decide +kernel)) (gWd_UW (w := 75) (by decide +kernel)) (gWd_UW (w := 76) (by decide +kernel)) rfl ⟨by decide +kernel, by decide +kernel, by decide +kernel⟩ ⟨Nat.le_of_ble_eq_true rfl, Nat.le_of_ble_eq_true rfl⟩ (show (1 : Nat) ≤ 8 by decide) (Nat.le_of_ble_eq_true rfl) (Nat.le_of_ble_eq_true rfl) (show decode code 4 = .ok (.invokespecial 9, 3) by decide +kernel) (fun u H locs hP hD hS => ?_)
  refine lv_astore_n (lv' := [(1, .ref q0), (0, .ref b)]) hx hb (show decode code 7 = .ok (.astore_n 1, 1) by decide +kernel) rfl hl (by decide) rfl (fun ls hl => ?_)
  refine va_new (ci := 10) (fs := [.null, .int 0, .null, .null, .int 0, .int 0, .null, .null, .null, .null, .null, .null, .int 0, .int 0, .int 0, .int 0, .int 0, .int 0, .null, .null, .null, .null, .null, .null, .null, .null, .null, .null, .null, .null, .int 0, .null, .null, .null, .null]) (C := RX10) (T := TX10) (N := 35) hx hb hts (gCls_in 10 _ rfl) tyX10 tyX10_ok hown2 (hts _ (gWd_UW (w := 815) (by decide +kernel))) (hts _ (gWd_UW (w := 816) (by decide +kernel))) (hts _ (gWd_UW (w := 66) (by decide +kernel))) hK hP hD hS hA rfl (by decide) (Nat.le_of_ble_eq_true rfl) (Nat.le_of_ble_eq_true rfl) (show decode code 8 = .ok (.new 10, 3) by decide +kernel) (fun q1 H hP hD hS => ?_)
  have hP : va_P D vwCl (gw_X9_init cA q0 u ++ [(q1, .inr (10, [.null, .int 0, .null, .null, .int 0, .int 0, .null, .null, .null, .null, .null, .null, .int 0, .int 0, .int 0, .int 0, .int 0, .int 0, .null, .null, .null, .null, .null, .null, .null, .null, .null, .null, .null, .null, .int 0, .null, .null, .null, .null]))]) H := hP
  have hD : va_D (fun q : Nat => s.heap.size ≤ q) (gw_X9_init cA q0 u ++ [(q1, .inr (10, [.null, .int 0, .null, .null, .int 0, .int 0, .null, .null, .null, .null, .null, .null, .int 0, .int 0, .int 0, .int 0, .int 0, .int 0, .null, .null, .null, .null, .null, .null, .null, .null, .null, .null, .null, .null, .int 0, .null, .null, .null, .null]))]) := hD
  refine lv_dup hx hb (show decode code 11 = .ok (.dup, 1) by decide +kernel) rfl ?_
  refine g_ctor (ws := gw_X9_init cA q0 u) (own := RL) (index := 12) (mL := 1) (F := 1) (mc := 25) (ms := 890) hx hb (hml.trans hl.1.symm) hown2 hts hK hO1 hO0 hP hD hS hA (gi_X10_init l cA D) (gWd_UW (w := 819) (by decide +kernel)) (gWd_UW (w := 66) (by decide +kernel)) (gWd_UW (w := 817) (by decide +kernel)) (gWd_UW (w := 818) (by decide +kernel)) rfl ⟨by decide +kernel, by decide +kernel, by decide +kernel⟩ ⟨Nat.le_of_ble_eq_true rfl, Nat.le_of_ble_eq_true rfl⟩ (show (1 : Nat) ≤ 8 by decide) (Nat.le_of_ble_eq_true rfl) (Nat.le_of_ble_eq_true rfl) (show decode code 12 = .ok (.invokespecial 12, 3) by decide +kernel) (fun v H locs hP hD hS => ?_)
  refine lv_astore_n (lv' := [(2, .ref q1), (1, .ref q0), (0, .ref b)]) hx hb (show decode code 15 = .ok (.astore_n 2, 1) by decide +kernel) rfl hl (by decide) rfl (fun ls hl => ?_)
  refine lv_iconst (n := 0) (v := 0) hx hb (show decode code 16 = .ok (.iconst 0, 1) by decide +kernel) (by decide) ?_
  refine lv_istore_n (lv' := [(3, .int 0), (2, .ref q1), (1, .ref q0), (0, .ref b)]) hx hb (show decode code 17 = .ok (.istore_n 3, 1) by decide +kernel) rfl hl (by decide) rfl (fun ls hl => ?_)
  refine W.widen (k := 600000) (n := 7302249) (Nat.le_of_ble_eq_true rfl) (Nat.le_of_ble_eq_true rfl) ?_
  have hP2 := gW_start (L := L) (xs := xs) (ad := ad0) hP
  have hD2 := gD_start (M := gMi0 L xs) (ad := ad0) hD
  have hF : gFx p room_1 s m #[Value.ref b] c cA D (gAd0 q0 q1 u v ad0) adV (fun q : Nat => s.heap.size ≤ q) (gMi0 L xs) 4 d 600000 7302249 cL_law RL := by
    refine ⟨hx, hb, hml, hown2, hts, hK, hsp (gAd0 q0 q1 u v ad0) (gMi0 L xs) ?_ ?_ ?_, hA, ⟨?_, Nat.le_refl _, Nat.le_refl _⟩, ?_⟩
    · intro p hp
      unfold gAd0
      rw [show Nat.blt p 107 = false by
        cases hz : Nat.blt p 107 with
        | false => rfl
        | true => exact absurd (Nat.blt_eq.mp hz) (by omega)]
      rfl
    · rfl
    · rfl
    · show d + 1 ≤ 2048
      omega
    · show 60 * (d + 1) ≤ 84000
      omega
  have hLH : gLH (gAd0 q0 q1 u v ad0) ls 4 (gLl 0) := by
    refine ⟨hl.1, rfl, hl.2.1, fun i w hw => ?_⟩
    match i, hw with
    | 0, hw =>
      cases hw
      have h9 := lv_at hl 3 rfl
      show ls[0]? = some (.val (.ref (gAd0 q0 q1 u v ad0 1000)))
      rw [show gAd0 q0 q1 u v ad0 1000 = ad0 1000 from rfl, hb0]
      exact h9
    | 1, hw => cases hw; exact lv_at hl 2 rfl
    | 2, hw => cases hw; exact lv_at hl 1 rfl
    | 3, hw => cases hw; exact lv_at hl 0 rfl
    | i + 4, hw => exact absurd hw (by simp [gLl])
  exact gLaw_loop hO hL rfl hF hr hlocks (L + 1) 0 (gMi0 L xs) (by omega) (Nat.zero_le _) (hO.1 L xs hL) H locs ls ⟨hP2, hD2, hS, hLH, rfl, rfl⟩
