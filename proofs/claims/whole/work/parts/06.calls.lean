-- 06: calls
theorem gcV_cat (ad : Nat → Nat) (v : gV) : (gcV ad v).category ≤ 2 := by
  match v with
  | .inl _ => simp [gcV, Value.category]
  | .inr (.inl _) => simp [gcV, Value.category]
  | .inr (.inr 0) => simp [gcV, Value.category]
  | .inr (.inr (_ + 1)) => simp [gcV, Value.category]
theorem gSm_sum {ad : Nat → Nat} {st : List gV} (h : gSm st = true) : ((st.map (gcV ad)).map fun v => v.category).sum ≤ 8 := by
  have h1 : st.length ≤ 4 := Nat.le_of_ble_eq_true h
  have h2 : ∀ l : List gV, ((l.map (gcV ad)).map fun v => v.category).sum ≤ 2 * l.length := by
    intro l
    induction l with
    | nil => simp
    | cons a l ih =>
      have := gcV_cat ad a
      simp only [List.map_cons, List.sum_cons, List.length_cons]
      omega
  have := h2 st
  omega
def gMathW : List Cond := [.static Lib.Math.max.name, .static Lib.Math.min.name, .initialized "java/lang/Math", .code Lib.Math.max.name Lib.Math.max.code 2 (some .int), .code Lib.Math.min.name Lib.Math.min.code 2 (some .int), .native arraycopyName, .static arraycopyName, .initialized "java/lang/System"]
theorem gMathW_in : (gMathW.all fun w => decide (w ∈ lw_tbl) && goodWord w) = true := by decide +kernel
theorem gMathW_UW : ∀ w ∈ gMathW, w ∈ gUW := by
  intro w hw
  have h2 := List.all_eq_true.mp gMathW_in w hw
  rw [Bool.and_eq_true, decide_eq_true_iff] at h2
  exact List.mem_filter.mpr h2
theorem gs_max {p : Program} {l : Launch} {e : Env} {R : Room} {s : State} {m : MethodId} {args : Array Value} {below : List Frame} {meth : Method} {c : Code} {Q : State → Prop} {cA : Nat → ClassId} {D : va_G} {ad adV : Nat → Nat} {A : Nat → Prop} {M0 : gM} {nL d ce so : Nat} {cc : ByteArray} {own : String} {pc : Nat} {ls : gL} {st : List gV} {M : gM} {idx : Nat} {x y : Int} (hs : gSm st = true) (hw : Cond.methodLink own idx Lib.Math.max.name ∈ gUW)
    (hF : gFx p R s m args c cA D ad adV A M0 nL d ce so cc own) (hd : decode cc pc = .ok (.invokestatic idx, 3)) (hK : gG p l e R s m args below meth c Q cA D ad A M0 nL ce so (pc + 3) ls (.inl (gMax x y) :: st) M) : gG p l e R s m args below meth c Q cA D ad A M0 nL ce so pc ls (.inl y :: .inl x :: st) M := by
  intro H locs as hS
  have h := hK H locs as hS
  have hsum := gSm_sum (ad := ad) hs
  obtain ⟨hx, hb, hml, hown, hts, -, -, -, hfr, hlo⟩ := hF
  simp only [List.map_cons, gcV_int, gMax, gI_back] at h
  refine va_mmax hx hb (hml.trans hS.2.2.2.1.1.symm) hown (hts _ hw) (hts _ (gMathW_UW _ (List.mem_of_getElem? (i := 0) rfl))) (hts _ (gMathW_UW _ (List.mem_of_getElem? (i := 2) rfl))) (hts _ (gMathW_UW _ (List.mem_of_getElem? (i := 3) rfl))) (by omega) (by omega) hfr.2.1 hfr.2.2 hd h
theorem gs_min {p : Program} {l : Launch} {e : Env} {R : Room} {s : State} {m : MethodId} {args : Array Value} {below : List Frame} {meth : Method} {c : Code} {Q : State → Prop} {cA : Nat → ClassId} {D : va_G} {ad adV : Nat → Nat} {A : Nat → Prop} {M0 : gM} {nL d ce so : Nat} {cc : ByteArray} {own : String} {pc : Nat} {ls : gL} {st : List gV} {M : gM} {idx : Nat} {x y : Int} (hs : gSm st = true) (hw : Cond.methodLink own idx Lib.Math.min.name ∈ gUW)
    (hF : gFx p R s m args c cA D ad adV A M0 nL d ce so cc own) (hd : decode cc pc = .ok (.invokestatic idx, 3)) (hK : gG p l e R s m args below meth c Q cA D ad A M0 nL ce so (pc + 3) ls (.inl (gMin x y) :: st) M) : gG p l e R s m args below meth c Q cA D ad A M0 nL ce so pc ls (.inl y :: .inl x :: st) M := by
  intro H locs as hS
  have h := hK H locs as hS
  have hsum := gSm_sum (ad := ad) hs
  obtain ⟨hx, hb, hml, hown, hts, -, -, -, hfr, hlo⟩ := hF
  simp only [List.map_cons, gcV_int, gMin, gI_back] at h
  refine va_mmin hx hb (hml.trans hS.2.2.2.1.1.symm) hown (hts _ hw) (hts _ (gMathW_UW _ (List.mem_of_getElem? (i := 1) rfl))) (hts _ (gMathW_UW _ (List.mem_of_getElem? (i := 2) rfl))) (hts _ (gMathW_UW _ (List.mem_of_getElem? (i := 4) rfl))) (by omega) (by omega) hfr.2.1 hfr.2.2 hd h
theorem gW_ix {x : Int} (h : 0 ≤ gW x) : ((gI x).toNatClampNeg : Int) = gW x := Int.toNat_of_nonneg h
theorem gW_neg {x : Int} (h : 0 ≤ gW x) : ¬ gI x < 0 := by
  intro q
  have := Int32.lt_iff_toInt_lt.mp q
  have h2 : (0 : Int32).toInt = 0 := rfl
  rw [h2] at this
  exact absurd this (Int.not_lt.mpr h)
theorem gCp_row (M : gM) (pl pd : Nat) (sp dp n : Nat) : va_cpy (fun k => gI (M pl k)) (fun k => gI (M pd k)) sp dp n = fun k => gI (gCp M pl sp pd dp n pd k) := by
  funext k
  by_cases hk : dp ≤ k ∧ k < dp + n
  · simp [va_cpy, gCp, hk]
  · simp [va_cpy, gCp, hk]
theorem gs_acopy {p : Program} {l : Launch} {e : Env} {R : Room} {s : State} {m : MethodId} {args : Array Value} {below : List Frame} {meth : Method} {c : Code} {Q : State → Prop} {cA : Nat → ClassId} {D : va_G} {ad adV : Nat → Nat} {A : Nat → Prop} {M0 : gM} {nL d ce so : Nat} {cc : ByteArray} {own : String} {pc : Nat} {ls : gL} {st : List gV} {M : gM} {idx n0 n1 pa pb : Nat} {r0 r1 : List Nat} {sp dp n : Int} (hl0 : gLay pa = (0, n0, r0)) (hl1 : gLay pb = (0, n1, r1)) (hc : 0 ≤ gW sp ∧ 0 ≤ gW dp ∧ 0 ≤ gW n ∧ gW sp + gW n ≤ (n0 : Int) ∧ gW dp + gW n ≤ (n1 : Int)) (hs : gSm st = true) (hw : Cond.methodLink own idx arraycopyName ∈ gUW)
    (hF : gFx p R s m args c cA D ad adV A M0 nL d ce so cc own) (hd : decode cc pc = .ok (.invokestatic idx, 3)) (hK : gG p l e R s m args below meth c Q cA D ad A M0 nL ce so (pc + 3) ls st (gCp M pa (gIx sp) pb (gIx dp) (gIx n))) : gG p l e R s m args below meth c Q cA D ad A M0 nL ce so pc ls (.inl n :: .inl dp :: .inr (.inr (pb + 1)) :: .inl sp :: .inr (.inr (pa + 1)) :: st) M := by
  intro H locs as hS
  have hsum := gSm_sum (ad := ad) hs
  obtain ⟨hx, hb, hml, hown, hts, hK0, -, -, hfr, hlo⟩ := hF
  obtain ⟨hP, hD, hS0, hL, hm1, hm2⟩ := hS
  obtain ⟨c1, c2, c3, c4, c5⟩ := hc
  have hp0 := gLay_lt hl0 (by omega)
  have hp1 := gLay_lt hl1 (by omega)
  have hp3 : pb < 107 := hp1
  have hat0 := gcW_at cA ad M hp0
  have hat1 := gcW_at cA ad M hp1
  rw [gcE_int hl0] at hat0
  rw [gcE_int hl1] at hat1
  have e1 := gW_ix c1
  have e2 := gW_ix c2
  have e3 := gW_ix c3
  refine va_copyi hx hb (hml.trans hL.1.symm) hown (hts _ hw) (hts _ (gMathW_UW _ (List.mem_of_getElem? (i := 5) rfl))) (hts _ (gMathW_UW _ (List.mem_of_getElem? (i := 6) rfl))) (hts _ (gMathW_UW _ (List.mem_of_getElem? (i := 7) rfl))) hK0 hP hD hS0 pa pb 0 0 hat0 hat1 rfl rfl rfl (gW_neg c1) (gW_neg c2) (gW_neg c3) (by omega) (by omega) (fun _ _ => rfl) (by omega) ?_ hd (fun H1 locs1 hP1 hD1 hS1 => ?_)
  · have : nativeFrameWords "java/lang/System" "arraycopy" 5 + 11 = 18 := by decide +kernel
    omega
  · have hset := gcW_set (cA := cA) (ad := ad) (M := M) (M' := gCp M pa (gIx sp) pb (gIx dp) (gIx n)) (x := .inl (cA 0, n1, .inl (va_cpy (fun k => gI (M pa k)) (fun k => gI (M pb k)) (gI sp).toNatClampNeg (gI dp).toNatClampNeg (gI n).toNatClampNeg))) hp1 (by rw [gcE_int hl1, gCp_row]; rfl) (fun q hq => gCp_ne hq)
    rw [hset] at hP1 hD1
    exact hK H1 locs1 as ⟨hP1, hD1, hS1, hL, by rw [gCp_ne (by omega)]; exact hm1, by rw [gCp_ne (by omega)]; exact hm2⟩
-- contracts
def gRm (d : Nat) : Room := { frames := d, cells := 0, slots := 0, locals := 60 * d }
def gWs (q : gMI) : List Cond := .code q.1 q.2.1 q.2.2.1 q.2.2.2.1 :: gUW
def gPre (cA : Nat → ClassId) (D : va_G) (ad adV : Nat → Nat) (M : gM) (sz : Nat) (U : State) : Prop :=
  U.heap.size = sz ∧ va_P D vwCl (gcW cA ad M) U.heap ∧ va_K D vwCl (gTy cA) U ∧ va_D (fun _ => True) (gcW cA ad M) ∧ gSpc M ad adV (va_A (gcW cA ad M) sz) U U.heap
def gQc (cA : Nat → ClassId) (D : va_G) (ad : Nat → Nat) (M : gM) (r : gR) (A : Nat → Prop) : Array Value → State → Outcome → State → Prop := fun _ st oc t =>
  (oc = .returned (r.2.map (gcV ad)) ∧ va_P D vwCl (gcW cA ad r.1) t.heap ∧ r.1 1000 = M 1000 ∧ r.1 1001 = M 1001) ∧ va_F A st t
def gCtr (l : Launch) (cA : Nat → ClassId) (D : va_G) (ad adV : Nat → Nat) (d : Nat) (y : MethodName) (ws : List Cond) (args : List gV) (M : gM) (r : gR) : Prop :=
  ∀ sz : Nat, Met l y ws (gRm d) (va_Pc (args.map (gcV ad)) (gPre cA D ad adV M sz)) (gQc cA D ad M r (va_A (gcW cA ad M) sz)) 0 0 (va_A (gcW cA ad M) sz)
theorem gcW_fst {cA : Nat → ClassId} {ad : Nat → Nat} {M : gM} {k a : Nat} {x : va_E} : (gcW cA ad M)[k]? = some (a, x) → k < gN ∧ a = ad k := by
  intro h
  have hk : k < gN := by
    have := (List.getElem?_eq_some_iff.mp h).1
    rwa [gcW_len] at this
  rw [gcW_at cA ad M hk] at h
  cases h
  exact ⟨hk, rfl⟩
theorem gcW_D {cA : Nat → ClassId} {ad : Nat → Nat} {M M' : gM} {A : Nat → Prop} (h : va_D A (gcW cA ad M)) : va_D A (gcW cA ad M') := by
  refine ⟨fun i j x y hi hj hxy => ?_, fun k q hk => ?_⟩
  · obtain ⟨hi', e1⟩ := gcW_fst (x := x.2) hi
    obtain ⟨hj', e2⟩ := gcW_fst (x := y.2) hj
    exact h.1 i j _ _ (gcW_at cA ad M hi') (gcW_at cA ad M hj') (by show ad i = ad j; rw [← e1, ← e2]; exact hxy)
  · obtain ⟨hk', e1⟩ := gcW_fst (x := q.2) hk
    rw [e1]
    exact h.2 k _ (gcW_at cA ad M hk')
theorem gNest_warm {s U : State} (hW : s.WarmedH U.vm) (h : ∀ w ∈ gNest, va_Nw w s) : ∀ w ∈ gNest, va_Nw w U := by
  intro w hw
  have h1 := h w hw
  simp only [gNest, List.mem_cons, List.not_mem_nil, or_false] at hw
  rcases hw with rfl | rfl | rfl | rfl
  · exact va_Nw.warmM hW h1
  · exact va_Nw.warmF hW h1
  · exact va_Nw.warmF hW h1
  · exact va_Nw.warmM hW h1
theorem gNest_same {s U : State} (hv : s.vm = U.vm) (h : ∀ w ∈ gNest, va_Nw w s) : ∀ w ∈ gNest, va_Nw w U := by
  intro w hw
  have h1 := h w hw
  simp only [gNest, List.mem_cons, List.not_mem_nil, or_false] at hw
  rcases hw with rfl | rfl | rfl | rfl <;> exact va_Nw.same rfl hv h1
theorem gSpc.to {M M0 : gM} {ad adV : Nat → Nat} {A B : Nat → Prop} {s U : State} {H : Heap} (h : gSpc M0 ad adV A s s.heap) (hH : ∀ a : Nat, a < s.heap.size → ¬ A a → H[a]? = s.heap[a]?) (hW : s.WarmedH U.vm) (hA : ∀ q, B q → A q) (h0 : M 1000 = M0 1000) (h1 : M 1001 = M0 1001) (hU : U.heap = H) : gSpc M ad adV B U U.heap := by
  obtain ⟨z1, z2, z3, z4, ⟨z5, z6⟩, z7, z8, z9, z10, z11⟩ := h
  rw [hU]
  have hv := hW.alike
  refine ⟨((z1.kept hH).moved hv).narrow hA, ((z2.kept hH).moved hv).narrow hA, ((z3.kept hH).moved hv).narrow hA, ((z4.kept hH).moved hv).narrow hA, ⟨?_, ?_⟩, fun j q hj => (z7 j q hj).warm hW, ((z8.kept hH).moved hv).narrow hA, ((z9.kept hH).moved hv).narrow hA, ((z10.kept hH).moved hv).narrow hA, gNest_warm hW z11⟩
  · rw [h1]; exact z5
  · rw [h0, h1]; exact ((z6.kept hH).moved hv).narrow hA
theorem gPre_blind (cA : Nat → ClassId) (D : va_G) (ad adV : Nat → Nat) (M : gM) (sz : Nat) (av : List Value) : FrameBlind (va_Pc av (gPre cA D ad adV M sz)) := by
  intro a U g mk ⟨h0, h1, h2, h3, h4, h5⟩
  obtain ⟨z1, z2, z3, z4, z5, z7, z8, z9, z10, z11⟩ := h5
  exact ⟨h0, h1, h2, va_K.moved (u := U) (U := U.calling g mk a) (Vm.Alike.refl U.vm) h3, h4, va_Z.moved (u := U) (U := U.calling g mk a) (Vm.Alike.refl U.vm) z1, va_Z.moved (u := U) (U := U.calling g mk a) (Vm.Alike.refl U.vm) z2, va_T.moved (u := U) (U := U.calling g mk a) (Vm.Alike.refl U.vm) z3, va_T.moved (u := U) (U := U.calling g mk a) (Vm.Alike.refl U.vm) z4, ⟨z5.1, va_T.moved (u := U) (U := U.calling g mk a) (Vm.Alike.refl U.vm) z5.2⟩, fun j q hj => vk_R.same (u := U) (U := U.calling g mk a) rfl (z7 j q hj), vk_S.moved (u := U) (U := U.calling g mk a) (Vm.Alike.refl U.vm) z8, va_Z.moved (u := U) (U := U.calling g mk a) (Vm.Alike.refl U.vm) z9, va_Zq.moved (u := U) (U := U.calling g mk a) (Vm.Alike.refl U.vm) z10, gNest_same (s := U) (U := U.calling g mk a) rfl z11⟩
/-- the callee's cells are ours -/
theorem gA_sub {s : State} {cA : Nat → ClassId} {D : va_G} {ad : Nat → Nat} {A : Nat → Prop} {M0 M : gM} {nL : Nat} {ls : gL} {H : Heap} {locs : List Loc} {as : Array Slot} (hS : gS s cA D ad A M0 nL ls M H locs as) (hA : ∀ q, s.heap.size ≤ q → A q) : ∀ q, va_A (gcW cA ad M) H.size q → A q := by
  intro q hq
  rcases hq with ⟨k, x, hk⟩ | hq
  · exact hS.2.1.2 k _ hk
  · exact hA q (Nat.le_trans hS.2.2.1.1 hq)
/-- behind a call -/
theorem g_behind {p : Program} {l : Launch} {e : Env} {R : Room} {s : State} {m : MethodId} {args : Array Value} {below : List Frame} {meth : Method} {c : Code} {Q : State → Prop} {cA : Nat → ClassId} {D : va_G} {ad adV : Nat → Nat} {A : Nat → Prop} {M0 : gM} {nL d ce so : Nat} {cc : ByteArray} {own : String} {pc : Nat} {ls : gL} {st0 : List Value} {rest : List gV} {M : gM} {H : Heap} {locs : List Loc} {as : Array Slot} {a : Array Value} {r : gR} (hF : gFx p R s m args c cA D ad adV A M0 nL d ce so cc own) (hS : gS s cA D ad A M0 nL ls M H locs as)
    (hr : va_Run p l e R s m args below meth c H locs ce so 0 0 (F0 m pc as st0) (rest.map (gcV ad)) (gQc cA D ad M r (va_A (gcW cA ad M) H.size) a) (va_A (gcW cA ad M) H.size))
    (hK : ∀ (H1 : Heap) (locs1 : List Loc), gS s cA D ad A M0 nL ls r.1 H1 locs1 as → W p l e R s m args below meth c H1 locs1 ce so Q (F0 m (pc + 3) as ((r.2.map (gcV ad)).toList ++ rest.map (gcV ad)))) : W p l e R s m args below meth c H locs ce so Q (F0 m pc as st0) := by
  have hsub := gA_sub hS hF.2.2.2.2.2.2.2.1
  obtain ⟨hP, hD, hS0, hL, hm1, hm2⟩ := hS
  intro T hT X
  obtain ⟨v, st₀, t, T', L, h0, X', hL1, e1, e2, ⟨⟨hv, hP1, g1, g2⟩, hz, hk⟩, st⟩ := hr T hT X
  have hv2 : v = r.2.map (gcV ad) := by cases hv; rfl
  subst hv2
  rw [h0] at hz hk
  have hS1 : va_S A s.heap T'.heap (locs ++ L) := ⟨Nat.le_trans hS0.1 (by rw [e1]; exact hz), fun q h1 h2 => by
      rw [e1, hk q (Nat.lt_of_lt_of_le h1 hS0.1) (fun z => h2 (hsub q z))]
      exact hS0.2.1 q h1 h2, fun q hq => by
      rcases List.mem_append.mp hq with h | h
      · exact hS0.2.2 q h
      · exact hsub _ (hL1 q h)⟩
  obtain ⟨t2, a1, b1⟩ := hK T'.heap (locs ++ L) ⟨by rw [e1]; exact hP1, gcW_D hD, hS1, hL, g1.trans hm1, g2.trans hm2⟩ T' rfl X'
  exact ⟨t2, st t2 a1, b1⟩
theorem gPre_at {p : Program} {R : Room} {s : State} {m : MethodId} {args : Array Value} {c : Code} {cA : Nat → ClassId} {D : va_G} {ad adV : Nat → Nat} {A : Nat → Prop} {M0 : gM} {nL d ce so : Nat} {cc : ByteArray} {own : String} {ls : gL} {M : gM} {H : Heap} {locs : List Loc} {as : Array Slot} {av : List Value} (hF : gFx p R s m args c cA D ad adV A M0 nL d ce so cc own) (hS : gS s cA D ad A M0 nL ls M H locs as) : ∀ U : State, U.heap = H → s.WarmedH U.vm → va_Pc av (gPre cA D ad adV M H.size) av.toArray U := by
  intro U hU hW
  have hsub := gA_sub hS hF.2.2.2.2.2.2.2.1
  refine ⟨rfl, by rw [hU], by rw [hU]; exact hS.1, va_K.moved hW.alike hF.2.2.2.2.2.1, hS.2.1.weaken (fun _ _ _ _ => trivial), ?_⟩
  exact hF.2.2.2.2.2.2.1.to hS.2.2.1.2.1 hW hsub hS.2.2.2.2.1 hS.2.2.2.2.2 hU
/-- what the tables hold of a method that is called -/
def gCalV (y : MethodName) : Prop := Cond.instanceMethod y ∈ gUW ∧ Cond.selects y.cls y y ∈ gUW ∧ Cond.initialized y.cls ∈ gUW ∧ y.cls ≠ "java/lang/invoke/MethodHandle" ∧ y.cls ≠ "java/lang/invoke/VarHandle"
def gCalS (y : MethodName) : Prop := Cond.static y ∈ gUW ∧ Cond.initialized y.cls ∈ gUW ∧ y.cls ≠ "java/lang/invoke/MethodHandle" ∧ y.cls ≠ "java/lang/invoke/VarHandle"
theorem gs_invV {p : Program} {l : Launch} {e : Env} {R : Room} {s : State} {m : MethodId} {args : Array Value} {below : List Frame} {meth : Method} {c : Code} {Q : State → Prop} {cA : Nat → ClassId} {D : va_G} {ad adV : Nat → Nat} {A : Nat → Prop} {M0 : gM} {nL d ce so : Nat} {cc : ByteArray} {own : String} {pc : Nat} {ls : gL} {av st1 : List gV} {M : gM} {idx n mL pl : Nat} {y : MethodName} {b : ByteArray} {rt : Option FieldType} {r : gR} {ci : Nat} {q : vw_C}
    (hc : gCtr l cA D ad adV d y (.code y b mL rt :: gUW) (.inr (.inr (pl + 1)) :: av) M r) (hcode : Cond.code y b mL rt ∈ gUW) (hy : gCalV y) (hlink : Cond.methodLink own idx y ∈ gUW) (hn : av.length = n) (hdesc : (parseMethodDescriptor y.desc).map (fun d => d.parameters.length) = some n) (hmL : mL ≤ 41) (hs : gSm st1 = true)
    (hq : vwCl[ci]? = some q) (hcl : q.1 = y.cls) {nn : Nat} {rs : List Nat} (hl : gLay pl = (ci + 4, nn, rs))
    (hF : gFx p R s m args c cA D ad adV A M0 nL d ce so cc own) (hd : decode cc pc = .ok (.invokevirtual idx, 3))
    (hK : ∀ (H1 : Heap) (locs1 : List Loc) (as : Array Slot), gS s cA D ad A M0 nL ls r.1 H1 locs1 as → W p l e R s m args below meth c H1 locs1 ce so Q (F0 m (pc + 3) as ((r.2.map (gcV ad)).toList ++ st1.map (gcV ad)))) : gG p l e R s m args below meth c Q cA D ad A M0 nL ce so pc ls (av.reverse ++ .inr (.inr (pl + 1)) :: st1) M := by
  intro H locs as hS
  have hpre := gPre_at (av := (Value.ref (ad pl) :: av.map (gcV ad))) hF hS
  have hsum := gSm_sum (ad := ad) hs
  refine g_behind hF hS (rest := st1) (r := r) (a := (Value.ref (ad pl) :: av.map (gcV ad)).toArray) ?_ (fun H1 locs1 h => hK H1 locs1 as h)
  obtain ⟨hx, hb, hml, hown, hts, hK0, hsp, hA, hfr, hlo⟩ := hF
  have hp := gLay_tag hl hq
  have hat := gcW_at cA ad M hp
  rw [gcE_obj hl] at hat
  have hG : GoodIn gUW (wsV own idx y.cls y (.code y b mL rt :: gUW)) := by
    intro w hw
    have hm : w ∈ gUW := by
      rcases List.mem_append.mp hw with h | h
      · simp only [List.mem_cons, List.not_mem_nil, or_false] at h
        rcases h with rfl | rfl | rfl | rfl
        · exact hlink
        · exact hy.1
        · exact hy.2.1
        · exact hy.2.2.1
      · rcases List.mem_cons.mp h with rfl | h
        · exact hcode
        · exact h
    exact gUW_good w hm
  have hrv := va_recv hK0 hS.1 hq hat
  rw [hcl] at hrv
  have hmap : (av.reverse ++ .inr (.inr (pl + 1)) :: st1).map (gcV ad) = (av.map (gcV ad)).reverse ++ .ref (ad pl) :: st1.map (gcV ad) := by
    rw [List.map_append, List.map_reverse]; rfl
  rw [hmap]
  refine va_runV (Ts := gUW) (C := y.cls) (own := own) (ws := .code y b mL rt :: gUW) (bytes := b) (maxL := mL) (ret := rt) (n := n) ⟨hx, hb, hml, hown, hts⟩ (hc H.size) (cwV n hts hG rfl rfl rfl ⟨rfl, hy.2.2.2.1, hy.2.2.2.2, hdesc⟩ ⟨hfr.1, by show 8 + (mL + 11) + 60 * d ≤ R.locals; omega⟩) ⟨gPre_blind _ _ _ _ _ _ _, hrv, hpre⟩ rfl (by rw [List.length_map]; exact hn) hS.2.2.2.1.1 rfl (lv_room hsum) hd ⟨hfr.2.1, hfr.2.2⟩
theorem gs_invS {p : Program} {l : Launch} {e : Env} {R : Room} {s : State} {m : MethodId} {args : Array Value} {below : List Frame} {meth : Method} {c : Code} {Q : State → Prop} {cA : Nat → ClassId} {D : va_G} {ad adV : Nat → Nat} {A : Nat → Prop} {M0 : gM} {nL d ce so : Nat} {cc : ByteArray} {own : String} {pc : Nat} {ls : gL} {av st1 : List gV} {M : gM} {idx n mL : Nat} {y : MethodName} {b : ByteArray} {rt : Option FieldType} {r : gR}
    (hc : gCtr l cA D ad adV d y (.code y b mL rt :: gUW) av M r) (hcode : Cond.code y b mL rt ∈ gUW) (hy : gCalS y) (hlink : Cond.methodLink own idx y ∈ gUW) (hn : av.length = n) (hdesc : (parseMethodDescriptor y.desc).map (fun d => d.parameters.length) = some n) (hmL : mL ≤ 41) (hs : gSm st1 = true)
    (hF : gFx p R s m args c cA D ad adV A M0 nL d ce so cc own) (hd : decode cc pc = .ok (.invokestatic idx, 3))
    (hK : ∀ (H1 : Heap) (locs1 : List Loc) (as : Array Slot), gS s cA D ad A M0 nL ls r.1 H1 locs1 as → W p l e R s m args below meth c H1 locs1 ce so Q (F0 m (pc + 3) as ((r.2.map (gcV ad)).toList ++ st1.map (gcV ad)))) : gG p l e R s m args below meth c Q cA D ad A M0 nL ce so pc ls (av.reverse ++ st1) M := by
  intro H locs as hS
  have hpre := gPre_at (av := av.map (gcV ad)) hF hS
  have hsum := gSm_sum (ad := ad) hs
  refine g_behind hF hS (rest := st1) (r := r) (a := (av.map (gcV ad)).toArray) ?_ (fun H1 locs1 h => hK H1 locs1 as h)
  obtain ⟨hx, hb, hml, hown, hts, hK0, hsp, hA, hfr, hlo⟩ := hF
  have hG : GoodIn gUW (va_wsS own idx y (.code y b mL rt :: gUW)) := by
    intro w hw
    have hm : w ∈ gUW := by
      rcases List.mem_append.mp hw with h | h
      · simp only [List.mem_cons, List.not_mem_nil, or_false] at h
        rcases h with rfl | rfl | rfl
        · exact hlink
        · exact hy.1
        · exact hy.2.1
      · rcases List.mem_cons.mp h with rfl | h
        · exact hcode
        · exact h
    exact gUW_good w hm
  have hmap : (av.reverse ++ st1).map (gcV ad) = (av.map (gcV ad)).reverse ++ st1.map (gcV ad) := by
    rw [List.map_append, List.map_reverse]
  rw [hmap]
  refine va_runS (Ts := gUW) (own := own) (ws := .code y b mL rt :: gUW) (bytes := b) (maxL := mL) (ret := rt) (n := n) ⟨hx, hb, hml, hown, hts⟩ (hc H.size) (va_cwS n hts hG rfl rfl rfl ⟨hy.2.2.1, hy.2.2.2, hdesc⟩ ⟨hfr.1, by show 8 + (mL + 11) + 60 * d ≤ R.locals; omega⟩) ⟨gPre_blind _ _ _ _ _ _ _, hpre⟩ rfl (by rw [List.length_map]; exact hn) hS.2.2.2.1.1 rfl (lv_room hsum) hd ⟨hfr.2.1, hfr.2.2⟩
theorem gs_invSN {p : Program} {l : Launch} {e : Env} {R : Room} {s : State} {m : MethodId} {args : Array Value} {below : List Frame} {meth : Method} {c : Code} {Q : State → Prop} {cA : Nat → ClassId} {D : va_G} {ad adV : Nat → Nat} {A : Nat → Prop} {M0 : gM} {nL d ce so : Nat} {cc : ByteArray} {own : String} {pc : Nat} {ls : gL} {av st1 : List gV} {M : gM} {idx n mL : Nat} {y : MethodName} {b : ByteArray} {rt : Option FieldType} {r : gR} {host : String}
    (hc : gCtr l cA D ad adV d y (.code y b mL rt :: gUW) av M r) (hcode : Cond.code y b mL rt ∈ gUW) (hy : gCalS y) (hlink : Cond.methodLinkNest own idx y host ∈ gNest) (hn : av.length = n) (hdesc : (parseMethodDescriptor y.desc).map (fun d => d.parameters.length) = some n) (hmL : mL ≤ 41) (hs : gSm st1 = true)
    (hF : gFx p R s m args c cA D ad adV A M0 nL d ce so cc own) (hd : decode cc pc = .ok (.invokestatic idx, 3))
    (hK : ∀ (H1 : Heap) (locs1 : List Loc) (as : Array Slot), gS s cA D ad A M0 nL ls r.1 H1 locs1 as → W p l e R s m args below meth c H1 locs1 ce so Q (F0 m (pc + 3) as ((r.2.map (gcV ad)).toList ++ st1.map (gcV ad)))) : gG p l e R s m args below meth c Q cA D ad A M0 nL ce so pc ls (av.reverse ++ st1) M := by
  intro H locs as hS
  have hpre := gPre_at (av := av.map (gcV ad)) hF hS
  have hsum := gSm_sum (ad := ad) hs
  refine g_behind hF hS (rest := st1) (r := r) (a := (av.map (gcV ad)).toArray) ?_ (fun H1 locs1 h => hK H1 locs1 as h)
  obtain ⟨hx, hb, hml, hown, hts, hK0, hsp, hA, hfr, hlo⟩ := hF
  have hG : GoodIn gUW (.code y b mL rt :: gUW) := by
    intro w hw
    rcases List.mem_cons.mp hw with rfl | h
    · exact gUW_good _ hcode
    · exact gUW_good _ h
  have hmap : (av.reverse ++ st1).map (gcV ad) = (av.map (gcV ad)).reverse ++ st1.map (gcV ad) := by
    rw [List.map_append, List.map_reverse]
  rw [hmap]
  refine va_runSN (Ts := gUW) (own := own) (host := host) (ws := .code y b mL rt :: gUW) (bytes := b) (maxL := mL) (ret := rt) (n := n) ⟨hx, hb, hml, hown, hts⟩ (hc H.size) ⟨va_cnB n hts hG rfl rfl rfl (hsp.2.2.2.2.2.2.2.2.2 _ hlink) (hts _ hy.2.1) ⟨hy.2.2.1, hy.2.2.2, hdesc⟩ ⟨hfr.1, by show 8 + (mL + 11) + 60 * d ≤ R.locals; omega⟩, hts _ hy.1, trivial⟩ ⟨gPre_blind _ _ _ _ _ _ _, hpre⟩ rfl (by rw [List.length_map]; exact hn) hS.2.2.2.1.1 rfl (lv_room hsum) hd ⟨hfr.2.1, hfr.2.2⟩
