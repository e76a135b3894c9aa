-- 12: the constructors
theorem va_nd_of : ∀ l : List Nat, l.Nodup → va_nd l = true
  | [], _ => rfl
  | a :: l, h => by
    rw [List.nodup_cons] at h
    simp only [va_nd, Bool.and_eq_true, decide_eq_true_eq]
    exact ⟨h.1, va_nd_of l h.2⟩
theorem g_join {A0 : Nat → Prop} {D : va_G} {cl : List vw_C} {ws w1 : va_W} {x : Nat × va_E} {H H1 : Heap} (hP : va_P D cl (ws ++ [x]) H) (hD : va_D A0 (ws ++ [x])) (hk : ∀ q : Nat, q < H.size → ¬ va_A [x] H.size q → H1[q]? = H[q]?) (hF : ∀ q, va_A [x] H.size q → A0 q) (hP1 : va_P D cl w1 H1) (hD1 : va_D (va_A [x] H.size) w1) : va_P D cl (ws ++ w1) H1 ∧ va_D A0 (ws ++ w1) := by
  refine va_join (wc := [x]) (wr := ws) hP hD [ws.length] (List.range ws.length) ?_ ?_ (va_nd_of _ List.nodup_range) ?_ hk hF hP1 hD1
  · simp
  · apply List.ext_getElem?
    intro i
    by_cases hi : i < ws.length
    · rw [List.getElem?_map, List.getElem?_range hi, List.getElem?_map]
      show some ((ws ++ [x])[i]?) = _
      rw [List.getElem?_append_left hi, List.getElem?_eq_getElem hi]
      rfl
    · rw [List.getElem?_eq_none (by simp; omega), List.getElem?_eq_none (by simp; omega)]
  · intro i hi
    simp only [List.mem_range] at hi
    simp only [List.mem_cons, List.not_mem_nil, or_false]
    omega
theorem g_free {A0 : Nat → Prop} {ws : va_W} {x : Nat × va_E} {H0 H : Heap} {locs : List Loc} (hD : va_D A0 (ws ++ [x])) (hS : va_S A0 H0 H locs) (hA : ∀ q, H0.size ≤ q → A0 q) : ∀ q, va_A [x] H.size q → A0 q := by
  intro q h
  rcases h with ⟨k, y, h⟩ | h
  · cases k with
    | zero =>
      simp only [List.getElem?_cons_zero] at h
      cases h
      exact hD.2 ws.length (q, y) (by simp)
    | succ k => simp at h
  · exact hA q (Nat.le_trans hS.1 h)
theorem g_RA {s : State} {c1 c2 : ClassId} {ty : FieldType} (h1 : va_RA s c1 ty) (h2 : va_RA s c2 ty) : c1 = c2 := by
  cases ty with
  | object C =>
    obtain ⟨_, _, -, -, -, e1⟩ := h1
    obtain ⟨_, _, -, -, -, e2⟩ := h2
    exact Option.some.inj (e1.symm.trans e2)
  | _ =>
    exact Option.some.inj ((show s.vm.findClass _ = some c1 from h1).symm.trans (show s.vm.findClass _ = some c2 from h2))
theorem g_newI {p : Program} {l : Launch} {e : Env} {R : Room} {s : State} {m : MethodId} {args : Array Value} {below : List Frame} {meth : Method} {c : Code} {H : Heap} {locs : List Loc} {cells slots : Nat} {Q : State → Prop} {cc : ByteArray} {pc : Nat} {ls : Array Slot} {rest : List Value} {D : va_G} {A : Nat → Prop} {H0 : Heap} {cA : Nat → ClassId} {ws : va_W} (hx : p.tables.exec = Jvm.exec) (hb : c.code = cc) (harr : (Cond.arrayClass .int).before args s = true) (hK : va_K D vwCl (gTy cA) s) (hP : va_P D vwCl ws H) (hD : va_D A ws) (hS : va_S A H0 H locs) (hA : ∀ q, H0.size ≤ q → A q) {n : Int32} {N : Nat} (hn : ¬ n < 0) (hN : n.toNatClampNeg = N) (hbytes : N * 4 ≤ 536870912) (hcells : cells + 1 ≤ R.cells) (hslots : slots + N ≤ R.slots) (hdg : decode cc pc = .ok (.newarray .int, 2))
    (kk : ∀ (q : Nat) (H1 : Heap), va_P D vwCl (ws ++ [(q, .inl (cA 0, N, .inl (fun _ => 0)))]) H1 → va_D A (ws ++ [(q, .inl (cA 0, N, .inl (fun _ => 0)))]) → va_S A H0 H1 locs → W p l e R s m args below meth c H1 locs (cells + 1) (slots + N) Q (F0 m (pc + 2) ls (.ref q :: rest))) : W p l e R s m args below meth c H locs cells slots Q (F0 m pc ls (.int n :: rest)) := by
  refine va_newa (atype := .int) (ty := .int) (a0 := (N, .inl (fun _ => 0))) (N' := N) hx hb harr rfl hK hP hD hS hA (fun cA => rfl) hn hN hbytes hcells hslots hdg (fun q cB H1 hK1 hP1 hD1 hS1 => ?_)
  have e : cB = cA 0 := g_RA (hK1.2 4 (cB, .int) rfl).2 (hK.2 0 (cA 0, .int) rfl).2
  subst e
  exact kk q H1 hP1 hD1 hS1
theorem g_newZ {p : Program} {l : Launch} {e : Env} {R : Room} {s : State} {m : MethodId} {args : Array Value} {below : List Frame} {meth : Method} {c : Code} {H : Heap} {locs : List Loc} {cells slots : Nat} {Q : State → Prop} {cc : ByteArray} {pc : Nat} {ls : Array Slot} {rest : List Value} {D : va_G} {A : Nat → Prop} {H0 : Heap} {cA : Nat → ClassId} {ws : va_W} (hx : p.tables.exec = Jvm.exec) (hb : c.code = cc) (harr : (Cond.arrayClass .boolean).before args s = true) (hK : va_K D vwCl (gTy cA) s) (hP : va_P D vwCl ws H) (hD : va_D A ws) (hS : va_S A H0 H locs) (hA : ∀ q, H0.size ≤ q → A q) {n : Int32} {N : Nat} (hn : ¬ n < 0) (hN : n.toNatClampNeg = N) (hbytes : N * 1 ≤ 536870912) (hcells : cells + 1 ≤ R.cells) (hslots : slots + N ≤ R.slots) (hdg : decode cc pc = .ok (.newarray .boolean, 2))
    (kk : ∀ (q : Nat) (H1 : Heap), va_P D vwCl (ws ++ [(q, .inl (cA 1, N, .inl (fun _ => 0)))]) H1 → va_D A (ws ++ [(q, .inl (cA 1, N, .inl (fun _ => 0)))]) → va_S A H0 H1 locs → W p l e R s m args below meth c H1 locs (cells + 1) (slots + N) Q (F0 m (pc + 2) ls (.ref q :: rest))) : W p l e R s m args below meth c H locs cells slots Q (F0 m pc ls (.int n :: rest)) := by
  refine va_newa (atype := .boolean) (ty := .boolean) (a0 := (N, .inl (fun _ => 0))) (N' := N) hx hb harr rfl hK hP hD hS hA (fun cA => rfl) hn hN hbytes hcells hslots hdg (fun q cB H1 hK1 hP1 hD1 hS1 => ?_)
  have e : cB = cA 1 := g_RA (hK1.2 4 (cB, .boolean) rfl).2 (hK.2 1 (cA 1, .boolean) rfl).2
  subst e
  exact kk q H1 hP1 hD1 hS1
theorem g_newQ {p : Program} {l : Launch} {e : Env} {R : Room} {s : State} {m : MethodId} {args : Array Value} {below : List Frame} {meth : Method} {c : Code} {H : Heap} {locs : List Loc} {cells slots : Nat} {Q : State → Prop} {cc : ByteArray} {pc : Nat} {ls : Array Slot} {rest : List Value} {D : va_G} {A : Nat → Prop} {H0 : Heap} {cA : Nat → ClassId} {ws : va_W} {own C : String} {index t0 : Nat} (hx : p.tables.exec = Jvm.exec) (hb : c.code = cc) (hown : s.vm.findClass own = some m.cls) (hclink : (Cond.classLink own index C).before args s = true) (hover : va_AO C s) (hK : va_K D vwCl (gTy cA) s) (ht0 : (gTy cA)[t0]? = some (cA t0, .object C)) (hP : va_P D vwCl ws H) (hD : va_D A ws) (hS : va_S A H0 H locs) (hA : ∀ q, H0.size ≤ q → A q) {n : Int32} {N : Nat} (hn : ¬ n < 0) (hN : n.toNatClampNeg = N) (hbytes : N * 4 ≤ 536870912) (hcells : cells + 1 ≤ R.cells) (hslots : slots + N ≤ R.slots) (hdg : decode cc pc = .ok (.anewarray index, 3))
    (kk : ∀ (q : Nat) (H1 : Heap), va_P D vwCl (ws ++ [(q, .inl (cA t0, N, .inr (.inr (.inr (.inr (fun _ => none))))))]) H1 → va_D A (ws ++ [(q, .inl (cA t0, N, .inr (.inr (.inr (.inr (fun _ => none))))))]) → va_S A H0 H1 locs → W p l e R s m args below meth c H1 locs (cells + 1) (slots + N) Q (F0 m (pc + 3) ls (.ref q :: rest))) : W p l e R s m args below meth c H locs cells slots Q (F0 m pc ls (.int n :: rest)) := by
  refine va_newq hx hb hown hclink hover hK hP hD hS hA hn hN hbytes hcells hslots hdg (fun q cB H1 hK1 hP1 hD1 hS1 => ?_)
  have hl : (gTy cA).length = 4 := rfl
  have e : cB = cA t0 := g_RA (hK1.2 4 (cB, .object C) rfl).2 (hK.2 t0 _ ht0).2
  subst e
  exact kk q H1 hP1 hD1 hS1
theorem g_iastL {p : Program} {l : Launch} {e : Env} {R : Room} {s : State} {m : MethodId} {args : Array Value} {below : List Frame} {meth : Method} {c : Code} {H : Heap} {locs : List Loc} {cells slots : Nat} {Q : State → Prop} {cc : ByteArray} {pc : Nat} {ls : Array Slot} {rest : List Value} {D : va_G} {A : Nat → Prop} {H0 : Heap} {cA : Nat → ClassId} {ws : va_W} {a N : Nat} {f : Nat → Int32} {i x : Int32} (hx : p.tables.exec = Jvm.exec) (hb : c.code = cc) (hK : va_K D vwCl (gTy cA) s) (hP : va_P D vwCl (ws ++ [(a, .inl (cA 0, N, .inl f))]) H) (hD : va_D A (ws ++ [(a, .inl (cA 0, N, .inl f))])) (hS : va_S A H0 H locs) (hin : vp_in i N) (hdg : decode cc pc = .ok (.iastore, 1))
    (kk : ∀ (H1 : Heap) (locs1 : List Loc), va_P D vwCl (ws ++ [(a, .inl (cA 0, N, .inl (upd f i.toNatClampNeg x)))]) H1 → va_D A (ws ++ [(a, .inl (cA 0, N, .inl (upd f i.toNatClampNeg x)))]) → va_S A H0 H1 locs1 → W p l e R s m args below meth c H1 locs1 cells slots Q (F0 m (pc + 1) ls rest)) : W p l e R s m args below meth c H locs cells slots Q (F0 m pc ls (.int x :: .int i :: .ref a :: rest)) := by
  refine va_iast (a := a) (cA := cA 0) (n := N) (f := f) hx hb hK hP hD hS ws.length 0 (by simp) rfl hin hdg (fun H1 locs1 hP1 hD1 hS1 => ?_)
  have e : (ws ++ [(a, (.inl (cA 0, N, .inl f) : va_E))]).set ws.length (a, .inl (cA 0, N, .inl (upd f i.toNatClampNeg x))) = ws ++ [(a, .inl (cA 0, N, .inl (upd f i.toNatClampNeg x)))] := by simp
  rw [e] at hP1 hD1
  exact kk H1 locs1 hP1 hD1 hS1
theorem g_aastL {p : Program} {l : Launch} {e : Env} {R : Room} {s : State} {m : MethodId} {args : Array Value} {below : List Frame} {meth : Method} {c : Code} {H : Heap} {locs : List Loc} {cells slots : Nat} {Q : State → Prop} {cc : ByteArray} {pc : Nat} {ls : Array Slot} {rest : List Value} {D : va_G} {A : Nat → Prop} {H0 : Heap} {cA : Nat → ClassId} {ws : va_W} {Y : va_W} {a N v t0 ci : Nat} {r : vw_C} {f : Nat → Option Nat} {i : Int32} (hx : p.tables.exec = Jvm.exec) (hb : c.code = cc) (hK : va_K D vwCl (gTy cA) s) (hP : va_P D vwCl (ws ++ (a, .inl (cA t0, N, .inr (.inr (.inr (.inr f))))) :: Y) H) (hD : va_D A (ws ++ (a, .inl (cA t0, N, .inr (.inr (.inr (.inr f))))) :: Y)) (hS : va_S A H0 H locs) (ht0 : (gTy cA)[t0]? = some (cA t0, .object r.1)) (hc : vwCl[ci]? = some r) (hv : ∃ vs, (v, .inr (ci, vs)) ∈ Y) (hin : vp_in i N) (hdg : decode cc pc = .ok (.aastore, 1))
    (kk : ∀ (H1 : Heap) (locs1 : List Loc), va_P D vwCl (ws ++ (a, .inl (cA t0, N, .inr (.inr (.inr (.inr (va_up f i.toNatClampNeg (some v))))))) :: Y) H1 → va_D A (ws ++ (a, .inl (cA t0, N, .inr (.inr (.inr (.inr (va_up f i.toNatClampNeg (some v))))))) :: Y) → va_S A H0 H1 locs1 → W p l e R s m args below meth c H1 locs1 cells slots Q (F0 m (pc + 1) ls rest)) : W p l e R s m args below meth c H locs cells slots Q (F0 m pc ls (.ref v :: .int i :: .ref a :: rest)) := by
  obtain ⟨vs, hv⟩ := hv
  obtain ⟨k, hk⟩ := List.getElem?_of_mem hv
  refine va_astq (a := a) (cA := cA t0) (n := N) (f := f) hx hb hK hP hD hS ws.length t0 (ws.length + 1 + k) ci (r := r) (by simp) ht0 (v := v) (vs := vs) ?_ hc hin hdg (fun H1 locs1 hP1 hD1 hS1 => ?_)
  · rw [List.getElem?_append_right (by omega), show ws.length + 1 + k - ws.length = k + 1 by omega]
    exact hk
  · have e : (ws ++ (a, (.inl (cA t0, N, .inr (.inr (.inr (.inr f)))) : va_E)) :: Y).set ws.length (a, .inl (cA t0, N, .inr (.inr (.inr (.inr (va_up f i.toNatClampNeg (some v))))))) = ws ++ (a, .inl (cA t0, N, .inr (.inr (.inr (.inr (va_up f i.toNatClampNeg (some v))))))) :: Y := by simp
    rw [e] at hP1 hD1
    exact kk H1 locs1 hP1 hD1 hS1
/-- before and behind a constructor -/
def gIn (cA : Nat → ClassId) (D : va_G) (ci : Nat) (fs : List Value) (h0 sz : Nat) (U : State) : Prop := U.heap.size = sz ∧ va_P D vwCl [(h0, .inr (ci, fs))] U.heap ∧ va_K D vwCl (gTy cA) U ∧ va_D (fun _ => True) [(h0, .inr (ci, fs))] ∧ va_AO RX1 U ∧ va_AO RX0 U
def gOut (cA : Nat → ClassId) (D : va_G) (w : (Nat → Nat) → va_W) (A : Nat → Prop) (u : Nat → Nat) (t : State) : Prop := va_P D vwCl (w u) t.heap ∧ va_K D vwCl (gTy cA) t ∧ va_D A (w u)
def gRi (F mc ms : Nat) : Room := { frames := F, cells := mc, slots := ms, locals := 100 * F }
def gInit (l : Launch) (cA : Nat → ClassId) (D : va_G) (y : MethodName) (b : ByteArray) (mL F mc ms ci : Nat) (fs : List Value) (w : Nat → (Nat → Nat) → va_W) : Prop :=
  ∀ h0 sz : Nat, Met l y (.code y b mL none :: gUW) (gRi F mc ms) (va_Pc [.ref h0] (gIn cA D ci fs h0 sz)) (va_Qv (fun _ : Nat → Nat => True) (gOut cA D (w h0) (va_A [(h0, .inr (ci, fs))] sz)) (va_A [(h0, .inr (ci, fs))] sz)) mc ms (va_A [(h0, .inr (ci, fs))] sz)
theorem g_ctor {p : Program} {l : Launch} {e : Env} {R : Room} {s : State} {m : MethodId} {args : Array Value} {below : List Frame} {meth : Method} {c : Code} {H : Heap} {locs : List Loc} {cells slots : Nat} {Q : State → Prop} {cc : ByteArray} {pc : Nat} {ls : Array Slot} {rest : List Value} {D : va_G} {A : Nat → Prop} {H0 : Heap} {cA : Nat → ClassId} {ws : va_W} {own : String} {index mL F mc ms ci : Nat} {y : MethodName} {b : ByteArray} {fs : List Value} {w : Nat → (Nat → Nat) → va_W} {q : Nat} (hx : p.tables.exec = Jvm.exec) (hb : c.code = cc) (hml : c.maxLocals = ls.size) (hown : s.vm.findClass own = some m.cls) (hts : ∀ w ∈ gUW, w.before args s = true) (hK : va_K D vwCl (gTy cA) s) (hO1 : va_AO RX1 s) (hO0 : va_AO RX0 s) (hP : va_P D vwCl (ws ++ [(q, .inr (ci, fs))]) H) (hD : va_D A (ws ++ [(q, .inr (ci, fs))])) (hS : va_S A H0 H locs) (hA : ∀ q, H0.size ≤ q → A q)
    (hM : gInit l cA D y b mL F mc ms ci fs w) (hcode : Cond.code y b mL none ∈ gUW) (hini : Cond.initialized y.cls ∈ gUW) (hlink : Cond.methodLink own index y ∈ gUW) (hinst : Cond.instanceMethod y ∈ gUW) (hy : y.name = "<init>") (hd : y.cls ≠ "java/lang/invoke/MethodHandle" ∧ y.cls ≠ "java/lang/invoke/VarHandle" ∧ (parseMethodDescriptor y.desc).map (fun d => d.parameters.length) = some 0) (hR : F + 1 ≤ R.frames ∧ 8 + (mL + 11) + 100 * F ≤ R.locals) (hsum : (rest.map fun v => v.category).sum ≤ 8) (hcells : cells + mc ≤ R.cells) (hslots : slots + ms ≤ R.slots) (hdg : decode cc pc = .ok (.invokespecial index, 3))
    (kk : ∀ (u : Nat → Nat) (H1 : Heap) (locs1 : List Loc), va_P D vwCl (ws ++ w q u) H1 → va_D A (ws ++ w q u) → va_S A H0 H1 locs1 → W p l e R s m args below meth c H1 locs1 (cells + mc) (slots + ms) Q (F0 m (pc + 3) ls rest)) : W p l e R s m args below meth c H locs cells slots Q (F0 m pc ls (.ref q :: rest)) := by
  have hFc := g_free hD hS hA
  have hG : GoodIn gUW (.code y b mL none :: gUW) := by
    intro w hw
    rcases List.mem_cons.mp hw with rfl | h
    · exact gUW_good _ hcode
    · exact gUW_good _ h
  have hPc : va_P D vwCl [(q, .inr (ci, fs))] H := hP.sub [ws.length] (by simp)
  have hDc : va_D A [(q, .inr (ci, fs))] := hD.sub [ws.length] (by simp [va_nd]) (by simp)
  refine va_callv (va_runI (Ts := gUW) (own := own) (index := index) (As := []) (rest := rest) ⟨hx, hb, hml, hown, hts⟩ (hM q H.size) (cwI 0 hts hG rfl rfl rfl (hts _ hini) (hts _ hlink) (hts _ hinst) hy hd hR) ⟨fun a U g mk ⟨h0, h1, h2, h3, h4, h5, h6⟩ => ⟨h0, h1, h2, va_K.moved (u := U) (U := U.calling g mk a) (Vm.Alike.refl U.vm) h3, h4, va_AO.moved (u := U) (U := U.calling g mk a) (Vm.Alike.refl U.vm) h5, va_AO.moved (u := U) (U := U.calling g mk a) (Vm.Alike.refl U.vm) h6⟩, fun U hU hW => ⟨rfl, by rw [hU], by rw [hU]; exact hPc, va_K.moved hW.alike hK, hDc.weaken (fun _ _ _ _ => trivial), va_AO.moved hW.alike hO1, va_AO.moved hW.alike hO0⟩⟩ rfl rfl rfl rfl (lv_room hsum) hdg ⟨hcells, hslots⟩) hS (fun q _ h => hFc q h) hFc (fun u t H1 locs1 ht hvm hw hB hz1 hk1 hS1 => ?_)
  obtain ⟨hP1, hK1, hD1⟩ := hB
  rw [ht] at hP1
  obtain ⟨hP2, hD2⟩ := g_join hP hD hk1 hFc hP1 hD1
  exact kk u H1 locs1 hP2 hD2 hS1
/-- addresses, one behind another, the first by the number 1 -/
def gAd (l : List Nat) (k : Nat) : Nat := l.getD (k - 1) 0
theorem gI_words : Cond.arrayClass .int ∈ gUW ∧ Cond.arrayClass .boolean ∈ gUW := by
  have h : ([Cond.arrayClass .int, Cond.arrayClass .boolean].all fun w => decide (w ∈ lw_tbl) && goodWord w) = true := by decide +kernel
  have key : ∀ w, w ∈ [Cond.arrayClass .int, Cond.arrayClass .boolean] → w ∈ gUW := fun w hw => by
    have h2 := List.all_eq_true.mp h w hw
    rw [Bool.and_eq_true, decide_eq_true_iff] at h2
    exact List.mem_filter.mpr h2
  exact ⟨key _ (by simp), key _ (by simp)⟩
