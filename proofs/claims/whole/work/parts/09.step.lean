-- 09: one step, whatever it is
theorem gRt_some {α : Type} (ad : Nat → Nat) {r4 : Nat} {o : Option gR} {K : gM → List gV → Option α} {st : List gV} {z : α} (h : gRt r4 o K st = some z) : ∃ (r : gR) (st' : List gV), o = some r ∧ K r.1 st' = some z ∧ (r.2.map (gcV ad)).toList ++ st.map (gcV ad) = st'.map (gcV ad) := by
  unfold gRt at h
  split at h
  · unfold gCv at h
    split at h
    · exact ⟨_, _, rfl, h, rfl⟩
    · cases h
  · unfold gCi at h
    split at h
    · exact ⟨_, _, rfl, h, rfl⟩
    · cases h
  · unfold gCr at h
    split at h
    · exact ⟨_, _, rfl, h, rfl⟩
    · cases h
theorem gSwL_some {α : Type} {x : Int} {d : Nat} {K : Nat → Option α} {z : α} : ∀ {tl : List (Int × Nat)}, gSwL x d K tl = some z → (∃ (j : Nat) (q : Int × Nat), tl[j]? = some q ∧ gW x = gW q.1 ∧ K q.2 = some z) ∨ ((∀ q ∈ tl, gW x ≠ gW q.1) ∧ K d = some z)
  | [], h => Or.inr ⟨fun _ h => absurd h List.not_mem_nil, h⟩
  | q :: tl, h => by
    unfold gSwL at h
    cases hb : gEq x q.1 with
    | true =>
      rw [hb] at h
      rw [gEq_eq, decide_eq_true_iff] at hb
      exact Or.inl ⟨0, q, rfl, hb, h⟩
    | false =>
      rw [hb] at h
      rw [gEq_eq, decide_eq_false_iff_not] at hb
      rcases gSwL_some (tl := tl) h with ⟨j, q', h1, h2, h3⟩ | ⟨h1, h2⟩
      · exact Or.inl ⟨j + 1, q', h1, h2, h3⟩
      · exact Or.inr ⟨fun q' hq => (List.mem_cons.mp hq).elim (fun e => by rw [e]; exact hb) (h1 q'), h2⟩
theorem gOkTab_at {tl : List (Int × Nat)} {lo hi : Int} {offs : Array Int} {pc : Nat} (h : gOkTab tl lo hi offs pc = true) : hi = lo + (tl.length : Int) - 1 ∧ ∀ (j : Nat) (q : Int × Nat), tl[j]? = some q → ∃ o, offs[j]? = some o ∧ q.1 = lo + (j : Int) ∧ (pc : Int) + o = (q.2 : Int) ∧ gW q.1 = q.1 := by
  unfold gOkTab at h
  obtain ⟨h1, h2⟩ := Bool.and_eq_true_iff.mp h
  refine ⟨of_decide_eq_true h1, fun j q hq => ?_⟩
  have h3 := List.all_eq_true.mp h2 j (List.mem_range.mpr (List.getElem?_eq_some_iff.mp hq).1)
  rw [hq] at h3
  cases ho : offs[j]? with
  | none => rw [ho] at h3; cases h3
  | some o =>
    rw [ho] at h3
    obtain ⟨h4, h5⟩ := Bool.and_eq_true_iff.mp h3
    obtain ⟨h6, h7⟩ := Bool.and_eq_true_iff.mp h4
    exact ⟨o, rfl, of_decide_eq_true h6, of_decide_eq_true h7, of_decide_eq_true h5⟩
theorem gs_tableswitch {p : Program} {l : Launch} {e : Env} {R : Room} {s : State} {m : MethodId} {args : Array Value} {below : List Frame} {meth : Method} {c : Code} {Q : State → Prop} {cA : Nat → ClassId} {D : va_G} {ad adV : Nat → Nat} {A : Nat → Prop} {M0 : gM} {nL d ce so : Nat} {cc : ByteArray} {own : String} {pc : Nat} {ls : gL} {st : List gV} {M : gM} {x : Int} {d0 lo hi : Int} {offs : Array Int} {len r1 : Nat} {tl : List (Int × Nat)} (h1 : (pc : Int) + d0 = (r1 : Int)) (h2 : gOkTab tl lo hi offs pc = true)
    (hF : gFx p R s m args c cA D ad adV A M0 nL d ce so cc own) (hd : decode cc pc = .ok (.tableswitch d0 lo hi offs, len)) (h : (∃ (j : Nat) (q : Int × Nat), tl[j]? = some q ∧ gW x = gW q.1 ∧ gG p l e R s m args below meth c Q cA D ad A M0 nL ce so q.2 ls st M) ∨ ((∀ q ∈ tl, gW x ≠ gW q.1) ∧ gG p l e R s m args below meth c Q cA D ad A M0 nL ce so r1 ls st M)) : gG p l e R s m args below meth c Q cA D ad A M0 nL ce so pc ls (.inl x :: st) M := by
  intro H locs as hS
  obtain ⟨hh, hj⟩ := gOkTab_at h2
  rcases h with ⟨j, q, hq, hx, hG⟩ | ⟨hn, hG⟩
  · obtain ⟨o, ho, e1, e2, e3⟩ := hj j q hq
    have hjl : j < tl.length := (List.getElem?_eq_some_iff.mp hq).1
    have hxv : (gI x).toInt = lo + (j : Int) := by
      show gW x = _
      rw [hx, e3, e1]
    refine lv_tableIn hF.1 hF.2.1 hd (by rw [hxv]; omega) (by rw [hxv]; omega) (off := o) ?_ e2 (hG H locs as hS)
    rw [hxv, show (lo + (j : Int) - lo).toNat = j by omega]
    exact ho
  · refine lv_tableOut hF.1 hF.2.1 hd ?_ h1 (hG H locs as hS)
    show gW x < lo ∨ hi < gW x
    by_cases hc : gW x < lo
    · exact Or.inl hc
    · refine Or.inr ?_
      by_cases hc2 : hi < gW x
      · exact hc2
      · exfalso
        have hlt : (gW x - lo).toNat < tl.length := by omega
        obtain ⟨q, hq⟩ : ∃ q, tl[(gW x - lo).toNat]? = some q := ⟨_, List.getElem?_eq_getElem hlt⟩
        obtain ⟨o, ho, e1, e2, e3⟩ := hj _ q hq
        refine hn q (List.mem_of_getElem? hq) ?_
        rw [e3, e1]
        omega
theorem gOkLook_off {pc : Nat} {x : Int} {d0 : Int} {r1 : Nat} (h1 : (pc : Int) + d0 = (r1 : Int)) : ∀ {tl : List (Int × Nat)} {ps : List (Int × Int)}, gOkLook tl ps pc = true → ∀ {P : Nat → Prop}, ((∃ (j : Nat) (q : Int × Nat), tl[j]? = some q ∧ gW x = gW q.1 ∧ (∀ i, i < j → ∀ q', tl[i]? = some q' → gW x ≠ gW q'.1) ∧ P q.2) ∨ ((∀ q ∈ tl, gW x ≠ gW q.1) ∧ P r1)) → ∃ (off : Int) (t : Nat), Op.lookupswitch.offset ps d0 (gI x).toInt = off ∧ (pc : Int) + off = (t : Int) ∧ P t
  | [], [], _, P, h => by
    rcases h with ⟨j, q, hq, -⟩ | ⟨-, hP⟩
    · simp at hq
    · exact ⟨d0, r1, rfl, h1, hP⟩
  | [], _ :: _, hk, _, _ => by cases hk
  | _ :: _, [], hk, _, _ => by cases hk
  | q :: tl, o :: ps, hk, P, h => by
    unfold gOkLook at hk
    obtain ⟨hk1, hk4⟩ := Bool.and_eq_true_iff.mp hk
    obtain ⟨hk2, hk3⟩ := Bool.and_eq_true_iff.mp hk1
    obtain ⟨hk5, hk6⟩ := Bool.and_eq_true_iff.mp hk2
    have e1 := of_decide_eq_true hk5
    have e2 := of_decide_eq_true hk6
    have e3 := of_decide_eq_true hk3
    by_cases hc : gW x = gW q.1
    · rcases h with ⟨j, q', hq, hx, hlt, hP⟩ | ⟨hn, hP⟩
      · cases j with
        | zero =>
          simp only [List.getElem?_cons_zero] at hq
          cases hq
          refine ⟨o.2, q.2, ?_, e2, hP⟩
          show (if o.1 = gW x then o.2 else _) = _
          rw [if_pos (by rw [hc, e3, e1])]
        | succ j => exact absurd hc (hlt 0 (Nat.succ_pos j) q rfl)
      · exact absurd hc (hn q List.mem_cons_self)
    · have ho : Op.lookupswitch.offset (o :: ps) d0 (gI x).toInt = Op.lookupswitch.offset ps d0 (gI x).toInt := by
        show (if o.1 = gW x then o.2 else _) = _
        rw [if_neg (fun z => hc (by rw [e3, e1]; exact z.symm))]
      rw [ho]
      refine gOkLook_off h1 hk4 (P := P) ?_
      rcases h with ⟨j, q', hq, hx, hlt, hP⟩ | ⟨hn, hP⟩
      · cases j with
        | zero =>
          simp only [List.getElem?_cons_zero] at hq
          cases hq
          exact absurd hx hc
        | succ j => exact Or.inl ⟨j, q', hq, hx, fun i hi q'' hq'' => hlt (i + 1) (Nat.succ_lt_succ hi) q'' hq'', hP⟩
      · exact Or.inr ⟨fun q' hq' => hn q' (List.mem_cons_of_mem _ hq'), hP⟩
/-- the first that fits -/
theorem gSwL_first {α : Type} {x : Int} {d : Nat} {K : Nat → Option α} {z : α} : ∀ {tl : List (Int × Nat)}, gSwL x d K tl = some z → (∃ (j : Nat) (q : Int × Nat), tl[j]? = some q ∧ gW x = gW q.1 ∧ (∀ i, i < j → ∀ q', tl[i]? = some q' → gW x ≠ gW q'.1) ∧ K q.2 = some z) ∨ ((∀ q ∈ tl, gW x ≠ gW q.1) ∧ K d = some z)
  | [], h => Or.inr ⟨fun _ h => absurd h List.not_mem_nil, h⟩
  | q :: tl, h => by
    unfold gSwL at h
    cases hb : gEq x q.1 with
    | true =>
      rw [hb] at h
      rw [gEq_eq, decide_eq_true_iff] at hb
      exact Or.inl ⟨0, q, rfl, hb, fun i hi => absurd hi (Nat.not_lt_zero i), h⟩
    | false =>
      rw [hb] at h
      rw [gEq_eq, decide_eq_false_iff_not] at hb
      rcases gSwL_first (tl := tl) h with ⟨j, q', h1, h2, h4, h3⟩ | ⟨h1, h2⟩
      · refine Or.inl ⟨j + 1, q', h1, h2, fun i hi q'' hq'' => ?_, h3⟩
        cases i with
        | zero => simp only [List.getElem?_cons_zero] at hq''; cases hq''; exact hb
        | succ i => exact h4 i (Nat.lt_of_succ_lt_succ hi) q'' hq''
      · exact Or.inr ⟨fun q' hq => (List.mem_cons.mp hq).elim (fun e => by rw [e]; exact hb) (h1 q'), h2⟩
theorem gs_lookupswitch {p : Program} {l : Launch} {e : Env} {R : Room} {s : State} {m : MethodId} {args : Array Value} {below : List Frame} {meth : Method} {c : Code} {Q : State → Prop} {cA : Nat → ClassId} {D : va_G} {ad adV : Nat → Nat} {A : Nat → Prop} {M0 : gM} {nL d ce so : Nat} {cc : ByteArray} {own : String} {pc : Nat} {ls : gL} {st : List gV} {M : gM} {x : Int} {d0 : Int} {ps : Array (Int × Int)} {len r1 : Nat} {tl : List (Int × Nat)} (h1 : (pc : Int) + d0 = (r1 : Int)) (h2 : gOkLook tl ps.toList pc = true) (h3 : (ps.toList.zip (ps.toList.drop 1)).all (fun (a, next) => a.1 < next.1) = true)
    (hF : gFx p R s m args c cA D ad adV A M0 nL d ce so cc own) (hd : decode cc pc = .ok (.lookupswitch d0 ps, len)) (h : (∃ (j : Nat) (q : Int × Nat), tl[j]? = some q ∧ gW x = gW q.1 ∧ (∀ i, i < j → ∀ q', tl[i]? = some q' → gW x ≠ gW q'.1) ∧ gG p l e R s m args below meth c Q cA D ad A M0 nL ce so q.2 ls st M) ∨ ((∀ q ∈ tl, gW x ≠ gW q.1) ∧ gG p l e R s m args below meth c Q cA D ad A M0 nL ce so r1 ls st M)) : gG p l e R s m args below meth c Q cA D ad A M0 nL ce so pc ls (.inl x :: st) M := by
  intro H locs as hS
  obtain ⟨off, t, ho, ht, hG⟩ := gOkLook_off h1 h2 (P := fun t => gG p l e R s m args below meth c Q cA D ad A M0 nL ce so t ls st M) h
  exact lv_lookup hF.1 hF.2.1 hd h3 ho ht (hG H locs as hS)
theorem gCalV_of {y : MethodName} {b : ByteArray} {mL : Nat} {rt : Option FieldType} {w : gCP} (h : gCalVB y b mL rt w = true) : gCalV y ∧ Cond.code y b mL rt ∈ gUW ∧ mL ≤ 41 := by
  unfold gCalVB at h
  simp only [Bool.and_eq_true, decide_eq_true_iff] at h
  obtain ⟨⟨⟨⟨⟨⟨a1, a2⟩, a3⟩, a4⟩, a5⟩, a6⟩, a7⟩ := h
  exact ⟨⟨gWd_UW a1, gWd_UW a2, gWd_UW a3, a5, a6⟩, gWd_UW a4, Nat.le_of_ble_eq_true a7⟩
theorem gCalS_of {y : MethodName} {b : ByteArray} {mL : Nat} {rt : Option FieldType} {w : gCP} (h : gCalSB y b mL rt w = true) : gCalS y ∧ Cond.code y b mL rt ∈ gUW ∧ mL ≤ 41 := by
  unfold gCalSB at h
  simp only [Bool.and_eq_true, decide_eq_true_iff] at h
  obtain ⟨⟨⟨⟨⟨a1, a3⟩, a4⟩, a5⟩, a6⟩, a7⟩ := h
  exact ⟨⟨gWd_UW a1, gWd_UW a3, a5, a6⟩, gWd_UW a4, Nat.le_of_ble_eq_true a7⟩
theorem gOkS_nat {n : Nat} {rs : List Nat} {p t : Nat} {α : Type} {x y : Option α} {z : α} (h : cond (Nat.beq p t) x y = some z) (hy : y = none) : p = t ∧ x = some z := by
  cases hb : Nat.beq p t with
  | true => rw [hb] at h; exact ⟨Nat.eq_of_beq_eq_true hb, h⟩
  | false => rw [hb, hy] at h; cases h
theorem cond_some {b : Bool} {α : Type} {x : Option α} {z : α} (h : cond b x none = some z) : b = true ∧ x = some z := by
  cases b with
  | true => exact ⟨rfl, h⟩
  | false => cases h

theorem gW_nat {n : Nat} (h : n < 2147483648) : gW (n : Int) = (n : Int) := by
  unfold gW gI
  rw [Int32.ofInt_eq_ofNat, Int32.toInt_ofNat_of_lt (by omega)]
theorem gLay_len : ∀ p, p < gN → (gLay p).2.1 < 1000 := by decide +kernel
theorem gSel_some0 {α : Type} {i : Int} {f : Nat → Option α} {z : α} : ∀ {n : Nat}, gSel i f n = some z → ∃ j, j < n ∧ gEq i (j : Int) = true ∧ f j = some z
  | 0, h => by cases h
  | n + 1, h => by
    unfold gSel at h
    cases hb : gEq i ((n : Nat) : Int) with
    | true => rw [hb] at h; exact ⟨n, Nat.lt_succ_self n, hb, h⟩
    | false =>
      rw [hb] at h
      obtain ⟨j, h1, h2, h3⟩ := gSel_some0 (n := n) h
      exact ⟨j, Nat.lt_succ_of_lt h1, h2, h3⟩
theorem gSel_some {α : Type} {i : Int} {f : Nat → Option α} {z : α} {p t n : Nat} {rs : List Nat} (hl : gLay p = (t, n, rs)) (hb : gInb i n = true) (h : gSel i f n = some z) : ∃ j, j = gIx i ∧ f j = some z := by
  obtain ⟨j, h1, h2, h3⟩ := gSel_some0 h
  refine ⟨j, ?_, h3⟩
  have hn : n < 1000 := by
    by_cases hp : p < gN
    · have := gLay_len p hp
      rw [hl] at this
      exact this
    · rcases Nat.lt_or_ge n 1000 with q | q
      · exact q
      · exfalso
        have hb : Nat.blt p gN = false := by
          cases hc : Nat.blt p gN with
          | false => rfl
          | true => exact absurd (Nat.blt_eq.mp hc) hp
        unfold gLay at hl
        rw [hb] at hl
        simp only [cond_false] at hl
        unfold gLy2 at hl
        split at hl
        · cases hl; omega
        · cases hl; omega
        · cases hl; omega
        · cases hc : (Nat.ble 1010 p && Nat.blt p 1017) <;> rw [hc] at hl <;> simp only [cond_true, cond_false] at hl <;> cases hl <;> omega
  rw [gEq_eq, decide_eq_true_iff, gW_nat (by omega)] at h2
  unfold gIx
  rw [h2]
  rfl
theorem gMx_some {α : Type} {f : Int → Int → Int} {st : List gV} {K : Int → List gV → Option α} {z : α} (h : (match st with
  | .inl y :: .inl x :: st => cond (gSm st) (K (f x y) st) none
  | _ => none) = some z) : ∃ (x y : Int) (st' : List gV), st = .inl y :: .inl x :: st' ∧ gSm st' = true ∧ K (f x y) st' = some z := by
  split at h
  · replace h := cond_some h
    exact ⟨_, _, _, rfl, h.1, h.2⟩
  · cases h
theorem gAr_some {α : Type} {st : List gV} {K : Int → Int → Nat → Int → Nat → List gV → Option α} {z : α} (h : (match st with
  | .inl n :: .inl dp :: .inr (.inr (p + 1)) :: .inl sp :: .inr (.inr (q + 1)) :: st => cond (gSm st) (K n dp p sp q st) none
  | _ => none) = some z) : ∃ (n dp : Int) (p : Nat) (sp : Int) (q : Nat) (st' : List gV), st = .inl n :: .inl dp :: .inr (.inr (p + 1)) :: .inl sp :: .inr (.inr (q + 1)) :: st' ∧ gSm st' = true ∧ K n dp p sp q st' = some z := by
  split at h
  · replace h := cond_some h
    exact ⟨_, _, _, _, _, _, rfl, h.1, h.2⟩
  · cases h

theorem gLay_60 {p : Nat} (h : (gLay p).1 = 60) : ∃ j, j < 7 ∧ p = 1010 + j := by
  by_cases hp : p < gN
  · exfalso
    have hc : ∀ q, q < gN → (gLay q).1 < 50 := by decide +kernel
    have := hc p hp
    omega
  · have hb : Nat.blt p gN = false := by
      cases hc : Nat.blt p gN with
      | false => rfl
      | true => exact absurd (Nat.blt_eq ▸ hc) (by simpa using hp)
    unfold gLay at h
    rw [hb] at h
    simp only [cond_false] at h
    unfold gLy2 at h
    split at h
    · simp at h
    · simp at h
    · simp at h
    · cases hc : (Nat.ble 1010 p && Nat.blt p 1017) with
      | false => rw [hc] at h; simp at h
      | true =>
        obtain ⟨h1, h2⟩ := Bool.and_eq_true_iff.mp hc
        have h3 := Nat.le_of_ble_eq_true h1
        have h4 := Nat.blt_eq.mp h2
        exact ⟨p - 1010, by omega, by omega⟩

theorem gs_invStr {p : Program} {l : Launch} {e : Env} {R : Room} {s : State} {m : MethodId} {args : Array Value} {below : List Frame} {meth : Method} {c : Code} {Q : State → Prop} {cA : Nat → ClassId} {D : va_G} {ad adV : Nat → Nat} {A : Nat → Prop} {M0 : gM} {nL d ce so : Nat} {cc : ByteArray} {own : String} {pc : Nat} {ls : gL} {av st1 : List gV} {M : gM} {idx n mL pl k : Nat} {y : MethodName} {b : ByteArray} {rt : Option FieldType} {r : gR}
    (hc : gCtr l cA D ad adV d y (.code y b mL rt :: gUW) (.inr (.inr (pl + 1)) :: av) M r) (hcode : Cond.code y b mL rt ∈ gUW) (hy : gCalV y) (hlink : Cond.methodLink own idx y ∈ gUW) (hn : av.length = n) (hdesc : (parseMethodDescriptor y.desc).map (fun d => d.parameters.length) = some n) (hmL : mL ≤ 41) (hs : gSm st1 = true)
    (h900 : 900 ≤ k) (ht : gTab k = some (y, b, mL, rt)) (hl : (gLay pl).1 = 60)
    (hF : gFx p R s m args c cA D ad adV A M0 nL d ce so cc own) (hd : decode cc pc = .ok (.invokevirtual idx, 3))
    (hK : ∀ (H1 : Heap) (locs1 : List Loc) (as : Array Slot), gS s cA D ad A M0 nL ls r.1 H1 locs1 as → W p l e R s m args below meth c H1 locs1 ce so Q (F0 m (pc + 3) as ((r.2.map (gcV ad)).toList ++ st1.map (gcV ad)))) : gG p l e R s m args below meth c Q cA D ad A M0 nL ce so pc ls (av.reverse ++ .inr (.inr (pl + 1)) :: st1) M := by
  intro H locs as hS
  have hpre := gPre_at (av := (Value.ref (ad pl) :: av.map (gcV ad))) hF hS
  have hsum := gSm_sum (ad := ad) hs
  refine g_behind hF hS (rest := st1) (r := r) (a := (Value.ref (ad pl) :: av.map (gcV ad)).toArray) ?_ (fun H1 locs1 h => hK H1 locs1 as h)
  obtain ⟨hx, hb, hml, hown, hts, hK0, hsp, hA, hfr, hlo⟩ := hF
  have hyc : y.cls = "java/lang/String" := by
    unfold gTab at ht
    rw [show Nat.ble 900 k = true from Nat.ble_eq.mpr h900] at ht
    simp only [cond_true] at ht
    cases hb : Nat.beq k 900 <;> rw [hb] at ht <;> cases ht <;> rfl
  have hG : GoodIn gUW (wsV own idx y.cls y (.code y b mL rt :: gUW)) := by
    intro w hw
    have hm : w ∈ gUW := by
      rcases List.mem_append.mp hw with h | h
      · simp only [List.mem_cons, List.not_mem_nil, or_false] at h
        rcases h with rfl | rfl | rfl | rfl
        · exact hlink
        · exact hy.1
        · exact hy.2.1
        · exact hy.2.2.1
      · rcases List.mem_cons.mp h with rfl | h
        · exact hcode
        · exact h
    exact gUW_good w hm
  obtain ⟨j, hj, rfl⟩ := gLay_60 hl
  have hrv := vk_recv (i := j) hsp.2.2.2.2.2.2.1 hj hS.2.2.1
  rw [← hyc] at hrv
  have hmap : (av.reverse ++ .inr (.inr (1010 + j + 1)) :: st1).map (gcV ad) = (av.map (gcV ad)).reverse ++ .ref (ad (1010 + j)) :: st1.map (gcV ad) := by
    rw [List.map_append, List.map_reverse]; rfl
  rw [hmap]
  refine va_runV (Ts := gUW) (C := y.cls) (own := own) (ws := .code y b mL rt :: gUW) (bytes := b) (maxL := mL) (ret := rt) (n := n) ⟨hx, hb, hml, hown, hts⟩ (hc H.size) (cwV n hts hG rfl rfl rfl ⟨rfl, hy.2.2.2.1, hy.2.2.2.2, hdesc⟩ ⟨hfr.1, by show 8 + (mL + 11) + 60 * d ≤ R.locals; omega⟩) ⟨gPre_blind _ _ _ _ _ _ _, hrv, hpre⟩ rfl (by rw [List.length_map]; exact hn) hS.2.2.2.1.1 rfl (lv_room hsum) hd ⟨hfr.2.1, hfr.2.2⟩
set_option maxHeartbeats 4000000 in
theorem gStep_sound {α : Type} {p : Program} {l : Launch} {e : Env} {R : Room} {s : State} {m : MethodId} {args : Array Value} {below : List Frame} {meth : Method} {c : Code} {Q : State → Prop} {cA : Nat → ClassId} {D : va_G} {ad adV : Nat → Nat} {A : Nat → Prop} {M0 : gM} {nL d ce so : Nat} {cc : ByteArray} {own : String} {C : gCl} {ρ : gM → Option gV → Option α} {ee : gE} {pc : Nat} {ls : gL} {st : List gV} {M : gM} {K : gK α} {z : α} {rt : Option FieldType}
    (hC : ∀ (k : Nat) (q : gTI) (av : List gV) (M : gM) (r : gR), gTab k = some q → C k av M = some r → gCtr l cA D ad adV d q.1 (.code q.1 q.2.1 q.2.2.1 q.2.2.2 :: gUW) av M r)
    (hCS : ∀ (k : Nat) (av : List gV) (M : gM) (r : gR), 900 ≤ k → C k av M = some r → ∃ (pl : Nat) (av' : List gV), av = .inr (.inr (pl + 1)) :: av' ∧ (gLay pl).1 = 60)
    (hF : gFx p R s m args c cA D ad adV A M0 nL d ce so cc own)
    (hK : ∀ (pc : Nat) (ls : gL) (st : List gV) (M : gM), K pc ls st M = some z → gG p l e R s m args below meth c Q cA D ad A M0 nL ce so pc ls st M)
    (hRi : ∀ (pc : Nat) (ls : gL) (x : Int) (M : gM), decode cc pc = .ok (.ireturn, 1) → rt = some .int → ρ M (some (.inl x)) = some z → gG p l e R s m args below meth c Q cA D ad A M0 nL ce so pc ls [.inl x] M)
    (hRz : ∀ (pc : Nat) (ls : gL) (x : Int) (M : gM), decode cc pc = .ok (.ireturn, 1) → rt = some .boolean → gB01 x = true → ρ M (some (.inl x)) = some z → gG p l e R s m args below meth c Q cA D ad A M0 nL ce so pc ls [.inl x] M)
    (hRa : ∀ (pc : Nat) (ls : gL) (x : Nat) (M : gM), decode cc pc = .ok (.areturn, 1) → rt = some (.object "java/lang/String") → ρ M (some (.inr (.inr (x + 1)))) = some z → gG p l e R s m args below meth c Q cA D ad A M0 nL ce so pc ls [.inr (.inr (x + 1))] M)
    (hRv : ∀ (pc : Nat) (ls : gL) (M : gM), decode cc pc = .ok (.return_, 1) → rt = none → ρ M none = some z → gG p l e R s m args below meth c Q cA D ad A M0 nL ce so pc ls [] M)
    (hok : gOk own rt cc pc ee = true) (h : gStep gLay C ρ ee pc ls st M K = some z) : gG p l e R s m args below meth c Q cA D ad A M0 nL ce so pc ls st M := by
  obtain ⟨i, len, r1, r2, r3, r4, tl⟩ := ee
  obtain ⟨hd0, hok⟩ := Bool.and_eq_true_iff.mp hok
  have hd := of_decide_eq_true hd0
  clear hd0
  cases i with
  | iconst n =>
    have hl := Nat.eq_of_beq_eq_true hok
    subst hl
    dsimp only [gStep] at h
    exact gs_iconst hF hd (hK _ _ _ _ h)
  | lconst n =>
    have hl := Nat.eq_of_beq_eq_true hok
    subst hl
    dsimp only [gStep] at h
    exact gs_lconst hF hd (hK _ _ _ _ h)
  | bipush n =>
    obtain ⟨hok, hx⟩ := Bool.and_eq_true_iff.mp hok
    have hl := Nat.eq_of_beq_eq_true hok
    subst hl
    dsimp only [gStep] at h
    exact gs_bipush (of_decide_eq_true hx) hF hd (hK _ _ _ _ h)
  | sipush n =>
    obtain ⟨hok, hx⟩ := Bool.and_eq_true_iff.mp hok
    have hl := Nat.eq_of_beq_eq_true hok
    subst hl
    dsimp only [gStep] at h
    exact gs_sipush (of_decide_eq_true hx) hF hd (hK _ _ _ _ h)
  | iadd =>
    have hl := Nat.eq_of_beq_eq_true hok
    subst hl
    dsimp only [gStep] at h
    split at h
    · exact gs_iadd hF hd (hK _ _ _ _ h)
    · cases h
  | isub =>
    have hl := Nat.eq_of_beq_eq_true hok
    subst hl
    dsimp only [gStep] at h
    split at h
    · exact gs_isub hF hd (hK _ _ _ _ h)
    · cases h
  | imul =>
    have hl := Nat.eq_of_beq_eq_true hok
    subst hl
    dsimp only [gStep] at h
    split at h
    · exact gs_imul hF hd (hK _ _ _ _ h)
    · cases h
  | iand =>
    have hl := Nat.eq_of_beq_eq_true hok
    subst hl
    dsimp only [gStep] at h
    split at h
    · exact gs_iand hF hd (hK _ _ _ _ h)
    · cases h
  | ior =>
    have hl := Nat.eq_of_beq_eq_true hok
    subst hl
    dsimp only [gStep] at h
    split at h
    · exact gs_ior hF hd (hK _ _ _ _ h)
    · cases h
  | ixor =>
    have hl := Nat.eq_of_beq_eq_true hok
    subst hl
    dsimp only [gStep] at h
    split at h
    · exact gs_ixor hF hd (hK _ _ _ _ h)
    · cases h
  | ishl =>
    have hl := Nat.eq_of_beq_eq_true hok
    subst hl
    dsimp only [gStep] at h
    split at h
    · exact gs_ishl hF hd (hK _ _ _ _ h)
    · cases h
  | ishr =>
    have hl := Nat.eq_of_beq_eq_true hok
    subst hl
    dsimp only [gStep] at h
    split at h
    · exact gs_ishr hF hd (hK _ _ _ _ h)
    · cases h
  | i2l =>
    have hl := Nat.eq_of_beq_eq_true hok
    subst hl
    dsimp only [gStep] at h
    split at h
    · exact gs_i2l hF hd (hK _ _ _ _ h)
    · cases h
  | ladd =>
    have hl := Nat.eq_of_beq_eq_true hok
    subst hl
    dsimp only [gStep] at h
    split at h
    · exact gs_ladd hF hd (hK _ _ _ _ h)
    · cases h
  | lcmp =>
    have hl := Nat.eq_of_beq_eq_true hok
    subst hl
    dsimp only [gStep] at h
    split at h
    · exact gs_lcmp hF hd (hK _ _ _ _ h)
    · cases h
  | dup2 =>
    have hl := Nat.eq_of_beq_eq_true hok
    subst hl
    dsimp only [gStep] at h
    split at h
    · exact gs_dup2 hF hd (hK _ _ _ _ h)
    · cases h
  | pop =>
    have hl := Nat.eq_of_beq_eq_true hok
    subst hl
    dsimp only [gStep] at h
    split at h
    · exact gs_pop hF hd (hK _ _ _ _ h)
    · cases h
  | idiv =>
    have hl := Nat.eq_of_beq_eq_true hok
    subst hl
    dsimp only [gStep] at h
    split at h
    · rename_i y x st
      cases hb : gEq y 0 with
      | true => rw [hb] at h; cases h
      | false => rw [hb] at h; exact gs_idiv (gEq_iff'.mp hb) hF hd (hK _ _ _ _ h)
    · cases h
  | irem =>
    have hl := Nat.eq_of_beq_eq_true hok
    subst hl
    dsimp only [gStep] at h
    split at h
    · rename_i y x st
      cases hb : gEq y 0 with
      | true => rw [hb] at h; cases h
      | false => rw [hb] at h; exact gs_irem (gEq_iff'.mp hb) hF hd (hK _ _ _ _ h)
    · cases h
  | dup =>
    have hl := Nat.eq_of_beq_eq_true hok
    subst hl
    dsimp only [gStep] at h
    split at h
    · exact gs_dupi hF hd (hK _ _ _ _ h)
    · exact gs_dupr hF hd (hK _ _ _ _ h)
    · cases h
  | iload n =>
    have hl := Nat.eq_of_beq_eq_true hok
    subst hl
    dsimp only [gStep] at h
    unfold gLdI at h
    split at h
    · rename_i hi
      exact gs_iload hi hF hd (hK _ _ _ _ h)
    · cases h
  | iload_n n =>
    have hl := Nat.eq_of_beq_eq_true hok
    subst hl
    dsimp only [gStep] at h
    unfold gLdI at h
    split at h
    · rename_i hi
      exact gs_iload_n hi hF hd (hK _ _ _ _ h)
    · cases h
  | lload n =>
    have hl := Nat.eq_of_beq_eq_true hok
    subst hl
    dsimp only [gStep] at h
    unfold gLdL at h
    split at h
    · rename_i hi
      exact gs_lload hi hF hd (hK _ _ _ _ h)
    · cases h
  | lload_n n =>
    have hl := Nat.eq_of_beq_eq_true hok
    subst hl
    dsimp only [gStep] at h
    unfold gLdL at h
    split at h
    · rename_i hi
      exact gs_lload_n hi hF hd (hK _ _ _ _ h)
    · cases h
  | aload n =>
    have hl := Nat.eq_of_beq_eq_true hok
    subst hl
    dsimp only [gStep] at h
    unfold gLdA at h
    split at h
    · rename_i hi
      exact gs_aload hi hF hd (hK _ _ _ _ h)
    · cases h
  | aload_n n =>
    have hl := Nat.eq_of_beq_eq_true hok
    subst hl
    dsimp only [gStep] at h
    unfold gLdA at h
    split at h
    · rename_i hi
      exact gs_aload_n hi hF hd (hK _ _ _ _ h)
    · cases h
  | istore n =>
    have hl := Nat.eq_of_beq_eq_true hok
    subst hl
    dsimp only [gStep] at h
    split at h
    · unfold gSt at h
      replace h := cond_some h
      obtain ⟨hb, h⟩ := h
      exact gs_istore hb hF hd (hK _ _ _ _ h)
    · cases h
  | istore_n n =>
    have hl := Nat.eq_of_beq_eq_true hok
    subst hl
    dsimp only [gStep] at h
    split at h
    · unfold gSt at h
      replace h := cond_some h
      obtain ⟨hb, h⟩ := h
      exact gs_istore_n hb hF hd (hK _ _ _ _ h)
    · cases h
  | astore n =>
    have hl := Nat.eq_of_beq_eq_true hok
    subst hl
    dsimp only [gStep] at h
    split at h
    · unfold gSt at h
      replace h := cond_some h
      obtain ⟨hb, h⟩ := h
      exact gs_astore hb hF hd (hK _ _ _ _ h)
    · cases h
  | astore_n n =>
    have hl := Nat.eq_of_beq_eq_true hok
    subst hl
    dsimp only [gStep] at h
    split at h
    · unfold gSt at h
      replace h := cond_some h
      obtain ⟨hb, h⟩ := h
      exact gs_astore_n hb hF hd (hK _ _ _ _ h)
    · cases h
  | iinc n k =>
    have hl := Nat.eq_of_beq_eq_true hok
    subst hl
    dsimp only [gStep] at h
    unfold gLdI at h
    split at h
    · rename_i hi
      unfold gSt at h
      replace h := cond_some h
      obtain ⟨hb, h⟩ := h
      exact gs_iinc hi hb hF hd (hK _ _ _ _ h)
    · cases h
  | goto off =>
    obtain ⟨hok, hx⟩ := Bool.and_eq_true_iff.mp hok
    have hl := Nat.eq_of_beq_eq_true hok
    subst hl
    dsimp only [gStep] at h
    exact gs_goto (of_decide_eq_true hx) hF hd (hK _ _ _ _ h)
  | ifCond cnd off =>
    obtain ⟨hok, hx⟩ := Bool.and_eq_true_iff.mp hok
    have hl := Nat.eq_of_beq_eq_true hok
    subst hl
    dsimp only [gStep] at h
    split at h
    · rename_i x st
      unfold gBr at h
      cases cnd with
      | eq => exact gs_if_eq (of_decide_eq_true hx) hF hd (fun q => hK _ _ _ _ (by dsimp only at h; rw [q] at h; exact h)) (fun q => hK _ _ _ _ (by dsimp only at h; rw [q] at h; exact h))
      | ne => exact gs_if_ne (of_decide_eq_true hx) hF hd (fun q => hK _ _ _ _ (by dsimp only at h; rw [q] at h; exact h)) (fun q => hK _ _ _ _ (by dsimp only at h; rw [q] at h; exact h))
      | lt => exact gs_if_lt (of_decide_eq_true hx) hF hd (fun q => hK _ _ _ _ (by dsimp only at h; rw [q] at h; exact h)) (fun q => hK _ _ _ _ (by dsimp only at h; rw [q] at h; exact h))
      | ge => exact gs_if_ge (of_decide_eq_true hx) hF hd (fun q => hK _ _ _ _ (by dsimp only at h; rw [q] at h; exact h)) (fun q => hK _ _ _ _ (by dsimp only at h; rw [q] at h; exact h))
      | gt => exact gs_if_gt (of_decide_eq_true hx) hF hd (fun q => hK _ _ _ _ (by dsimp only at h; rw [q] at h; exact h)) (fun q => hK _ _ _ _ (by dsimp only at h; rw [q] at h; exact h))
      | le => exact gs_if_le (of_decide_eq_true hx) hF hd (fun q => hK _ _ _ _ (by dsimp only at h; rw [q] at h; exact h)) (fun q => hK _ _ _ _ (by dsimp only at h; rw [q] at h; exact h))
    · cases h
  | if_icmp cnd off =>
    obtain ⟨hok, hx⟩ := Bool.and_eq_true_iff.mp hok
    have hl := Nat.eq_of_beq_eq_true hok
    subst hl
    dsimp only [gStep] at h
    split at h
    · rename_i y x st
      unfold gBr at h
      cases cnd with
      | eq => exact gs_icmp_eq (of_decide_eq_true hx) hF hd (fun q => hK _ _ _ _ (by dsimp only at h; rw [q] at h; exact h)) (fun q => hK _ _ _ _ (by dsimp only at h; rw [q] at h; exact h))
      | ne => exact gs_icmp_ne (of_decide_eq_true hx) hF hd (fun q => hK _ _ _ _ (by dsimp only at h; rw [q] at h; exact h)) (fun q => hK _ _ _ _ (by dsimp only at h; rw [q] at h; exact h))
      | lt => exact gs_icmp_lt (of_decide_eq_true hx) hF hd (fun q => hK _ _ _ _ (by dsimp only at h; rw [q] at h; exact h)) (fun q => hK _ _ _ _ (by dsimp only at h; rw [q] at h; exact h))
      | ge => exact gs_icmp_ge (of_decide_eq_true hx) hF hd (fun q => hK _ _ _ _ (by dsimp only at h; rw [q] at h; exact h)) (fun q => hK _ _ _ _ (by dsimp only at h; rw [q] at h; exact h))
      | gt => exact gs_icmp_gt (of_decide_eq_true hx) hF hd (fun q => hK _ _ _ _ (by dsimp only at h; rw [q] at h; exact h)) (fun q => hK _ _ _ _ (by dsimp only at h; rw [q] at h; exact h))
      | le => exact gs_icmp_le (of_decide_eq_true hx) hF hd (fun q => hK _ _ _ _ (by dsimp only at h; rw [q] at h; exact h)) (fun q => hK _ _ _ _ (by dsimp only at h; rw [q] at h; exact h))
    · cases h
  | tableswitch d0 lo hi offs =>
    obtain ⟨hx, hy⟩ := Bool.and_eq_true_iff.mp hok
    dsimp only [gStep] at h
    split at h
    · refine gs_tableswitch (of_decide_eq_true hx) hy hF hd ?_
      rcases gSwL_some h with ⟨j, q, q1, q2, q3⟩ | ⟨q1, q2⟩
      · exact Or.inl ⟨j, q, q1, q2, hK _ _ _ _ q3⟩
      · exact Or.inr ⟨q1, hK _ _ _ _ q2⟩
    · cases h
  | lookupswitch d0 ps =>
    obtain ⟨hx, hw⟩ := Bool.and_eq_true_iff.mp hok
    obtain ⟨hx, hy⟩ := Bool.and_eq_true_iff.mp hx
    dsimp only [gStep] at h
    split at h
    · refine gs_lookupswitch (of_decide_eq_true hx) hy hw hF hd ?_
      rcases gSwL_first h with ⟨j, q, q1, q2, q4, q3⟩ | ⟨q1, q2⟩
      · exact Or.inl ⟨j, q, q1, q2, q4, hK _ _ _ _ q3⟩
      · exact Or.inr ⟨q1, hK _ _ _ _ q2⟩
    · cases h
  | ldc idx =>
    obtain ⟨hok, hx⟩ := Bool.and_eq_true_iff.mp hok
    have hl := Nat.eq_of_beq_eq_true hok
    subst hl
    cases r3 with
    | zero =>
      dsimp only [gStep] at h
      exact gs_ldc (gWd_UW hx) hF hd (hK _ _ _ _ h)
    | succ r3 =>
      dsimp only [gStep] at h
      obtain ⟨hx, hy⟩ := Bool.and_eq_true_iff.mp hx
      obtain ⟨hx, hz⟩ := Bool.and_eq_true_iff.mp hx
      have hle := Nat.le_of_ble_eq_true hx
      cases hg : gStrs[r1 - 1010]? with
      | none => rw [hg] at hy; cases hy
      | some q =>
        rw [hg] at hy
        have hq := Nat.eq_of_beq_eq_true hy
        have e1 : 1010 + (r1 - 1010) + 1 = r1 + 1 := by omega
        exact gs_ldcS (of_decide_eq_true hz) (j := r1 - 1010) (tx := q.2) (by rw [hg, ← hq]) hF hd (by rw [e1]; exact hK _ _ _ _ h)
  | ldc_w idx =>
    obtain ⟨hok, hx⟩ := Bool.and_eq_true_iff.mp hok
    have hl := Nat.eq_of_beq_eq_true hok
    subst hl
    dsimp only [gStep] at h
    exact gs_ldcw (gWd_UW hx) hF hd (hK _ _ _ _ h)
  | ldc2_w idx =>
    obtain ⟨hok, hx⟩ := Bool.and_eq_true_iff.mp hok
    have hl := Nat.eq_of_beq_eq_true hok
    subst hl
    dsimp only [gStep] at h
    exact gs_ldc2 (gWd_UW hx) hF hd (hK _ _ _ _ h)
  | getstatic idx =>
    obtain ⟨hok, hx⟩ := Bool.and_eq_true_iff.mp hok
    have hl := Nat.eq_of_beq_eq_true hok
    subst hl
    dsimp only [gStep] at h
    cases r2 with
    | zero =>
      rcases Bool.or_eq_true_iff.mp hx with hx | hx
      · obtain ⟨h1, h2⟩ := Bool.and_eq_true_iff.mp hx
        have e1 := Nat.eq_of_beq_eq_true h1
        subst e1
        exact gs_getstatic (Or.inl ⟨rfl, rfl⟩) (gWd_UW h2) hF hd (hK _ _ _ _ h)
      · obtain ⟨h1, h2⟩ := Bool.and_eq_true_iff.mp hx
        have e1 := Nat.eq_of_beq_eq_true h1
        subst e1
        exact gs_getstatic (Or.inr ⟨rfl, rfl⟩) (gWd_UW h2) hF hd (hK _ _ _ _ h)
    | succ r2 =>
      obtain ⟨h1, h2⟩ := Bool.and_eq_true_iff.mp hx
      have e1 := Nat.eq_of_beq_eq_true h1
      subst e1
      exact gs_getstaticN (of_decide_eq_true h2) hF hd (hK _ _ _ _ h)
  | getfield idx =>
    obtain ⟨hok, hx⟩ := Bool.and_eq_true_iff.mp hok
    have hl := Nat.eq_of_beq_eq_true hok
    subst hl
    dsimp only [gStep] at h
    cases hw : gFw own idx r1 r2 with
    | none => rw [hw] at hx; cases hx
    | some w =>
      rw [hw] at hx
      split at h
      · rename_i pl st
        unfold gGf at h
        rcases hly : gLay pl with ⟨t, n, rs⟩
        rw [hly] at h
        dsimp only at h
        replace h := cond_some h
        obtain ⟨hb, h⟩ := h
        have e1 := Nat.eq_of_beq_eq_true hb
        subst e1
        split at h
        · rename_i hr
          exact gs_getfield hw (gWd_UW hx) hly (Or.inl ⟨hr, rfl⟩) hF hd (hK _ _ _ _ h)
        · rename_i r hr
          exact gs_getfield hw (gWd_UW hx) hly (Or.inr ⟨r, hr, rfl⟩) hF hd (hK _ _ _ _ h)
        · cases h
      · cases h
  | putfield idx =>
    obtain ⟨hok, hy⟩ := Bool.and_eq_true_iff.mp hok
    obtain ⟨hok, hx⟩ := Bool.and_eq_true_iff.mp hok
    have hl := Nat.eq_of_beq_eq_true hok
    subst hl
    dsimp only [gStep] at h
    cases hw : gFw own idx r1 r2 with
    | none => rw [hw] at hx; cases hx
    | some w =>
      rw [hw] at hx
      cases hq : vwCl[r1]? with
      | none => rw [hq] at hy; cases hy
      | some q =>
        rw [hq] at hy
        obtain ⟨hf, hy⟩ := Bool.and_eq_true_iff.mp hy
        have hfin : (q.2.1 r2).2.2.2 = false := by simpa using hf
        split at h
        · rename_i v pl st
          rcases hly : gLay pl with ⟨t, n, rs⟩
          have key : ∀ {y : Option α}, gPf gLay M pl r1 r2 v (fun M => K (pc + 3) ls st M) = some z → ((q.2.1 r2).2.2.1 = "I" ∨ ((q.2.1 r2).2.2.1 = "Z" ∧ gB01 v = true)) → gG p l e R s m args below meth c Q cA D ad A M0 nL ce so pc ls (.inl v :: .inr (.inr (pl + 1)) :: st) M := by
            intro y h hty
            unfold gPf at h
            rw [hly] at h
            dsimp only at h
            replace h := cond_some h
            obtain ⟨hb, h⟩ := h
            have e1 := Nat.eq_of_beq_eq_true hb
            subst e1
            have hp := gLay_tag hly hq
            have hp3 : pl < 107 := hp
            split at h
            · rename_i hr
              exact gs_putfield hw (gWd_UW hx) hly hr hq hfin hty ⟨by omega, by omega⟩ hF hd (hK _ _ _ _ h)
            · cases h
          split at h
          · rename_i hr3
            exact key (y := none) h (Or.inl (of_decide_eq_true hy))
          · rename_i hr3
            obtain ⟨hb, h⟩ := gIf_some h
            refine key (y := none) h (Or.inr ⟨?_, hb⟩)
            split at hy
            · exact absurd rfl hr3
            · exact of_decide_eq_true hy
        · cases h
  | iaload =>
    have hl := Nat.eq_of_beq_eq_true hok
    subst hl
    dsimp only [gStep] at h
    split at h
    · rename_i i pl st
      unfold gAl at h
      split at h
      · rename_i n rs hly
        obtain ⟨hb, h⟩ := gIf_some h
        exact gs_iaload hly hb hF hd (hK _ _ _ _ h)
      · rename_i n rs hly
        obtain ⟨hb, h⟩ := gIf_some h
        exact gs_iaload50 hly hb hF hd (hK _ _ _ _ h)
      · rename_i n rs hly
        obtain ⟨hb, h⟩ := gIf_some h
        exact gs_iaload51 hly hb hF hd (hK _ _ _ _ h)
      · cases h
    · cases h
  | iastore =>
    have hl := Nat.eq_of_beq_eq_true hok
    subst hl
    dsimp only [gStep] at h
    split at h
    · rename_i v i pl st
      unfold gAs at h
      split at h
      · rename_i n rs hly
        obtain ⟨hb, h⟩ := gIf_some h
        exact gs_iastore hly hb hF hd (hK _ _ _ _ h)
      · cases h
    · cases h
  | baload =>
    have hl := Nat.eq_of_beq_eq_true hok
    subst hl
    dsimp only [gStep] at h
    split at h
    · rename_i i pl st
      unfold gBl at h
      split at h
      · rename_i n rs hly
        obtain ⟨hb, h⟩ := gIf_some h
        exact gs_baload hly hb hF hd (hK _ _ _ _ h)
      · cases h
    · cases h
  | bastore =>
    have hl := Nat.eq_of_beq_eq_true hok
    subst hl
    dsimp only [gStep] at h
    split at h
    · rename_i v i pl st
      unfold gBs at h
      split at h
      · rename_i n rs hly
        obtain ⟨hb, h⟩ := gIf_some h
        obtain ⟨hb2, h⟩ := gIf_some h
        exact gs_bastore hly hb hb2 hF hd (hK _ _ _ _ h)
      · cases h
    · cases h
  | aaload =>
    have hl := Nat.eq_of_beq_eq_true hok
    subst hl
    dsimp only [gStep] at h
    split at h
    · rename_i i pl st
      unfold gAa at h
      split at h
      · rename_i n b k hly
        obtain ⟨hb, h⟩ := gIf_some h
        obtain ⟨j, e, h⟩ := gSel_some hly hb h
        subst e
        exact gs_aaload (Or.inl rfl) hly hb hF hd (hK _ _ _ _ h)
      · rename_i n b k hly
        obtain ⟨hb, h⟩ := gIf_some h
        obtain ⟨j, e, h⟩ := gSel_some hly hb h
        subst e
        exact gs_aaload (Or.inr rfl) hly hb hF hd (hK _ _ _ _ h)
      · cases h
    · cases h
  | arraylength =>
    have hl := Nat.eq_of_beq_eq_true hok
    subst hl
    dsimp only [gStep] at h
    split at h
    · rename_i pl st
      unfold gLn at h
      split at h
      · rename_i n rs hly
        exact gs_arraylen hly hF hd (hK _ _ _ _ h)
      · rename_i n rs hly
        exact gs_arraylen50 hly hF hd (hK _ _ _ _ h)
      · rename_i n rs hly
        exact gs_arraylen51 hly hF hd (hK _ _ _ _ h)
      · cases h
    · cases h
  | ireturn =>
    obtain ⟨hok, hx⟩ := Bool.and_eq_true_iff.mp hok
    have hl := Nat.eq_of_beq_eq_true hok
    subst hl
    dsimp only [gStep] at h
    split at h
    · rename_i x
      cases r1 with
      | zero => exact hRi _ _ _ _ hd (of_decide_eq_true hx) h
      | succ r1 =>
        obtain ⟨hb, h⟩ := gIf_some h
        exact hRz _ _ _ _ hd (of_decide_eq_true hx) hb h
    · cases h
  | areturn =>
    obtain ⟨hok, hx⟩ := Bool.and_eq_true_iff.mp hok
    have hl := Nat.eq_of_beq_eq_true hok
    subst hl
    dsimp only [gStep] at h
    split at h
    · exact hRa _ _ _ _ hd (of_decide_eq_true hx) h
    · cases h
  | return_ =>
    obtain ⟨hok, hx⟩ := Bool.and_eq_true_iff.mp hok
    have hl := Nat.eq_of_beq_eq_true hok
    subst hl
    dsimp only [gStep] at h
    split at h
    · exact hRv _ _ _ hd (of_decide_eq_true hx) h
    · cases h
  | invokevirtual idx =>
    obtain ⟨hok, hx⟩ := Bool.and_eq_true_iff.mp hok
    have hl := Nat.eq_of_beq_eq_true hok
    subst hl
    dsimp only [gStep] at h
    rcases ht : gTab r1 with _ | ⟨y, b, mL, rt1⟩
    · rw [ht] at hx; cases hx
    rcases hcp : gCPl r1 with _ | w
    · rw [ht, hcp] at hx; cases hx
    rw [ht, hcp] at hx
    rcases tl with _ | ⟨⟨wl0, wl⟩, _ | ⟨q2, tl⟩⟩
    · cases hx
    rotate_left
    · cases hx
    obtain ⟨hx, hz⟩ := Bool.and_eq_true_iff.mp hx
    obtain ⟨hx, ha⟩ := Bool.and_eq_true_iff.mp hx
    obtain ⟨hx, hlk⟩ := Bool.and_eq_true_iff.mp hx
    obtain ⟨g1, g2, g3⟩ := gCalV_of hx
    split at h
    · rename_i pl st1 hst
      replace h := cond_some h
      obtain ⟨hb, h⟩ := h
      obtain ⟨hb1, hb2⟩ := Bool.and_eq_true_iff.mp hb
      have htag := Nat.eq_of_beq_eq_true hb2
      obtain ⟨r, st', ho, hk, hm⟩ := gRt_some ad h
      have hlen : r2 < st.length := by
        have : (st.drop r2).length = st1.length + 1 := by rw [hst]; rfl
        rw [List.length_drop] at this
        omega
      have hst2 : st = ((st.take r2).reverse).reverse ++ .inr (.inr (pl + 1)) :: st1 := by
        rw [List.reverse_reverse, ← hst, List.take_append_drop]
      rw [hst2]
      have hctr := hC r1 _ _ M r ht ho
      have hcnt : ((st.take r2).reverse).length = r2 := by
        rw [List.length_reverse, List.length_take]; omega
      have hKK : ∀ (H1 : Heap) (locs1 : List Loc) (as : Array Slot), gS s cA D ad A M0 nL ls r.1 H1 locs1 as → W p l e R s m args below meth c H1 locs1 ce so Q (F0 m (pc + 3) as ((r.2.map (gcV ad)).toList ++ st1.map (gcV ad))) := by
        intro H1 locs1 as hS1
        rw [hm]
        exact hK _ _ _ _ hk H1 locs1 as hS1
      by_cases h900 : 900 ≤ r1
      · obtain ⟨pl', av', hav, ht60⟩ := hCS r1 _ M r h900 ho
        cases hav
        exact gs_invStr hctr g2 g1 (gWd_UW hlk) hcnt (of_decide_eq_true ha) g3 hb1 h900 ht ht60 hF hd hKK
      · have hz2 : Nat.ble 4 r3 = true ∧ (match vwCl[r3 - 4]? with
            | some q => decide (q.1 = y.cls)
            | none => false) = true := by
          split at hz
          · exact absurd (Nat.le_refl 900) h900
          · exact absurd (by decide) h900
          · obtain ⟨hz, hz3⟩ := Bool.and_eq_true_iff.mp hz
            obtain ⟨hz1, hz2⟩ := Bool.and_eq_true_iff.mp hz
            exact ⟨hz2, hz3⟩
        have h4 := Nat.le_of_ble_eq_true hz2.1
        cases hq : vwCl[r3 - 4]? with
        | none => rw [hq] at hz2; cases hz2.2
        | some q =>
          rw [hq] at hz2
          rcases hly : gLay pl with ⟨t, n, rs⟩
          rw [hly] at htag
          have e1 : t = (r3 - 4) + 4 := by
            have : t = r3 := htag
            omega
          rw [e1] at hly
          exact gs_invV hctr g2 g1 (gWd_UW hlk) hcnt (of_decide_eq_true ha) g3 hb1 hq (of_decide_eq_true hz2.2) hly hF hd hKK
    · cases h
  | invokestatic idx =>
    obtain ⟨hok, hx⟩ := Bool.and_eq_true_iff.mp hok
    have hl := Nat.eq_of_beq_eq_true hok
    subst hl
    dsimp only [gStep] at h
    rcases tl with _ | ⟨⟨wl0, wl⟩, _ | ⟨q2, tl⟩⟩
    · cases hx
    rotate_left
    · cases hx
    obtain hr3 | hr3 | hr3 | ⟨r5, hr3⟩ : r3 = 0 ∨ r3 = 1 ∨ r3 = 2 ∨ ∃ r5, r3 = r5 + 3 := by
      rcases r3 with _ | _ | _ | r3
      · exact Or.inl rfl
      · exact Or.inr (Or.inl rfl)
      · exact Or.inr (Or.inr (Or.inl rfl))
      · exact Or.inr (Or.inr (Or.inr ⟨r3, rfl⟩))
    all_goals subst hr3
    · rcases ht : gTab r1 with _ | ⟨y, b, mL, rt1⟩
      · dsimp only at hx; rw [ht] at hx; cases hx
      rcases hcp : gCPl r1 with _ | w
      · dsimp only at hx; rw [ht, hcp] at hx; cases hx
      dsimp only at hx h
      rw [ht, hcp] at hx
      obtain ⟨hx, hlk⟩ := Bool.and_eq_true_iff.mp hx
      obtain ⟨hx, ha⟩ := Bool.and_eq_true_iff.mp hx
      obtain ⟨g1, g2, g3⟩ := gCalS_of hx
      replace h := cond_some h
      obtain ⟨hb, h⟩ := h
      obtain ⟨hb1, hb2⟩ := Bool.and_eq_true_iff.mp hb
      obtain ⟨r, st', ho, hk, hm⟩ := gRt_some ad h
      have hlen := Nat.le_of_ble_eq_true hb2
      have hst2 : st = ((st.take r2).reverse).reverse ++ st.drop r2 := by
        rw [List.reverse_reverse, List.take_append_drop]
      have hctr := hC r1 _ _ M r ht ho
      have hcnt : ((st.take r2).reverse).length = r2 := by
        rw [List.length_reverse, List.length_take]; omega
      have hKK : ∀ (H1 : Heap) (locs1 : List Loc) (as : Array Slot), gS s cA D ad A M0 nL ls r.1 H1 locs1 as → W p l e R s m args below meth c H1 locs1 ce so Q (F0 m (pc + 3) as ((r.2.map (gcV ad)).toList ++ (st.drop r2).map (gcV ad))) := by
        intro H1 locs1 as hS1
        rw [hm]
        exact hK _ _ _ _ hk H1 locs1 as hS1
      have key : gG p l e R s m args below meth c Q cA D ad A M0 nL ce so pc ls (((st.take r2).reverse).reverse ++ st.drop r2) M := by
        rcases Bool.or_eq_true_iff.mp hlk with hlk | hlk
        · exact gs_invS hctr g2 g1 (gWd_UW hlk) hcnt (of_decide_eq_true ha) g3 hb1 hF hd hKK
        · exact gs_invSN hctr g2 g1 (of_decide_eq_true hlk) hcnt (of_decide_eq_true ha) g3 hb1 hF hd hKK
      rw [← hst2] at key
      exact key
    · obtain ⟨x, y, st', rfl, hb, h⟩ := gMx_some (f := gMax) (K := fun v st => K (pc + 3) ls (.inl v :: st) M) h
      exact gs_max hb (gWd_UW hx) hF hd (hK _ _ _ _ h)
    · obtain ⟨x, y, st', rfl, hb, h⟩ := gMx_some (f := gMin) (K := fun v st => K (pc + 3) ls (.inl v :: st) M) h
      exact gs_min hb (gWd_UW hx) hF hd (hK _ _ _ _ h)
    · obtain ⟨n, dp, pb, sp, pa, st', rfl, hb, h⟩ := gAr_some (K := fun n dp pb sp pa st => gAc gLay M pa sp pb dp n (fun M => K (pc + 3) ls st M)) h
      unfold gAc at h
      split at h
      · rename_i hl0 hl1
        replace h := gIf_some h
        obtain ⟨hb2, h⟩ := h
        exact gs_acopy hl0 hl1 (of_decide_eq_true hb2) hb (gWd_UW hx) hF hd (hK _ _ _ _ h)
      · cases h
  | _ => exact absurd hok Bool.false_ne_true
