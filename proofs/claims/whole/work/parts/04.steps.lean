-- 04: what the small machine's values and store are in the machine's; its steps are the machine's, one by one
def gcV (ad : Nat → Nat) : gV → Value
  | .inl x => .int (gI x)
  | .inr (.inl x) => .long (gJ x)
  | .inr (.inr 0) => .null
  | .inr (.inr (p + 1)) => .ref (ad p)
def gLH (ad : Nat → Nat) (as : Array Slot) (nL : Nat) (ls : gL) : Prop := as.size = nL ∧ ls.length = nL ∧ lv_wf as ∧ ∀ (i : Nat) (v : gV), ls[i]? = some (some v) → as[i]? = some (.val (gcV ad v))
def gAsc (ad : Nat → Nat) (ls : gL) : List (Nat × Value) := (List.range ls.length).filterMap (fun i => match ls[i]? with
  | some (some v) => some (i, gcV ad v)
  | _ => none)
theorem gAsc_mem {ad : Nat → Nat} {ls : gL} {q : Nat × Value} : q ∈ gAsc ad ls ↔ ∃ v, ls[q.1]? = some (some v) ∧ q.2 = gcV ad v := by
  unfold gAsc
  rw [List.mem_filterMap]
  constructor
  · rintro ⟨i, hi, h⟩
    split at h
    · rename_i v hv
      cases h
      exact ⟨v, hv, rfl⟩
    · cases h
  · rintro ⟨v, hv, h2⟩
    refine ⟨q.1, List.mem_range.mpr (List.getElem?_eq_some_iff.mp hv).1, ?_⟩
    rw [hv]
    show some (q.1, gcV ad v) = some q
    rw [← h2]
theorem gLH.has {ad : Nat → Nat} {as : Array Slot} {nL : Nat} {ls : gL} (h : gLH ad as nL ls) : lv_has as nL (gAsc ad ls) := by
  refine ⟨h.1, h.2.2.1, fun q hq => ?_⟩
  obtain ⟨v, h1, h2⟩ := gAsc_mem.mp hq
  rw [h2]
  exact h.2.2.2 _ _ h1
theorem gLH.store {ad : Nat → Nat} {as as' : Array Slot} {nL i : Nat} {ls : gL} {v : gV} (h : gLH ad as nL ls) (hk : (gOkS ls i && Nat.blt i ls.length) = true)
    (h' : lv_has as' nL ((i, gcV ad v) :: (gAsc ad ls).filter (fun q => !(q.1 == i) && !(q.1 + 1 == i && q.2.category == 2)))) : gLH ad as' nL (ls.set i (some v)) := by
  refine ⟨h'.1, by rw [List.length_set]; exact h.2.1, h'.2.1, fun j w hj => ?_⟩
  by_cases hji : j = i
  · subst hji
    have hl : j < ls.length := by
      have := (List.getElem?_eq_some_iff.mp hj).1
      rwa [List.length_set] at this
    rw [List.getElem?_set_self hl] at hj
    cases hj
    exact h'.2.2 (j, gcV ad v) List.mem_cons_self
  · rw [List.getElem?_set_ne (Ne.symm hji)] at hj
    refine h'.2.2 (j, gcV ad w) (List.mem_cons_of_mem _ (List.mem_filter.mpr ⟨gAsc_mem.mpr ⟨w, hj, rfl⟩, ?_⟩))
    have h1 : (j == i) = false := by simp [hji]
    have h2 : (j + 1 == i && (gcV ad w).category == 2) = false := by
      by_cases hz : j + 1 = i
      · subst hz
        have h3 : gOkS ls (j + 1) = true := by
          rw [Bool.and_eq_true] at hk; exact hk.1
        simp only [gOkS, hj] at h3
        match w, h3 with
        | .inl _, _ => simp [gcV, Value.category]
        | .inr (.inr 0), _ => simp [gcV, Value.category]
        | .inr (.inr (_ + 1)), _ => simp [gcV, Value.category]
      · simp [hz]
    simp only [h1, h2]
    rfl
theorem gLH.sub {ad : Nat → Nat} {as : Array Slot} {nL : Nat} {ls ls' : gL} (h : gLH ad as nL ls) (hl : ls'.length = ls.length) (hs : ∀ (i : Nat) (v : gV), ls'[i]? = some (some v) → ls[i]? = some (some v)) : gLH ad as nL ls' :=
  ⟨h.1, hl.trans h.2.1, h.2.2.1, fun i v hv => h.2.2.2 i v (hs i v hv)⟩
theorem gLH.cut {ad : Nat → Nat} {as : Array Slot} {nL : Nat} {ls : gL} (h : gLH ad as nL ls) (k : Nat) : gLH ad as nL (gCut k ls) := by
  refine h.sub ?_ ?_
  · simp [gCut]; omega
  · intro i v hv
    unfold gCut at hv
    by_cases hi : i < (ls.take k).length
    · rw [List.getElem?_append_left hi] at hv
      rw [List.getElem?_take] at hv
      split at hv
      · exact hv
      · cases hv
    · rw [List.getElem?_append_right (by omega)] at hv
      rw [List.getElem?_replicate] at hv
      split at hv <;> cases hv
-- cells
def gFv (ad : Nat → Nat) (x : Nat) (v : Int) : Value := match x with
  | 0 => .int (gI v)
  | r + 1 => .ref (ad r)
def gcE (cA : Nat → ClassId) (ad : Nat → Nat) (M : gM) (p : Nat) : va_E := match gLay p with
  | (0, n, _) => .inl (cA 0, n, .inl (fun i => gI (M p i)))
  | (1, n, _) => .inl (cA 1, n, .inl (fun i => gI (M p i)))
  | (2, n, rs) => .inl (cA 2, n, .inr (.inr (.inr (.inr (fun i => some (ad (rs.getD 0 0 + rs.getD 1 0 * i)))))))
  | (3, n, rs) => .inl (cA 3, n, .inr (.inr (.inr (.inr (fun i => some (ad (rs.getD 0 0 + rs.getD 1 0 * i)))))))
  | (t + 4, _, rs) => .inr (t, (List.range rs.length).map (fun i => gFv ad (rs.getD i 0) (M p i)))
def gcW (cA : Nat → ClassId) (ad : Nat → Nat) (M : gM) : va_W := (List.range gN).map (fun p => (ad p, gcE cA ad M p))
theorem gcW_at (cA : Nat → ClassId) (ad : Nat → Nat) (M : gM) {p : Nat} (h : p < gN) : (gcW cA ad M)[p]? = some (ad p, gcE cA ad M p) := by
  unfold gcW
  rw [List.getElem?_map, List.getElem?_range h]
  rfl
theorem gcW_len (cA : Nat → ClassId) (ad : Nat → Nat) (M : gM) : (gcW cA ad M).length = gN := by simp [gcW]
theorem gcE_same {cA : Nat → ClassId} {ad : Nat → Nat} {M M' : gM} {p : Nat} (h : M' p = M p) : gcE cA ad M' p = gcE cA ad M p := by
  unfold gcE
  rw [h]
theorem gcW_set {cA : Nat → ClassId} {ad : Nat → Nat} {M M' : gM} {p : Nat} {x : va_E} (h : p < gN) (hx : x = gcE cA ad M' p) (hM : ∀ q, q ≠ p → M' q = M q) : (gcW cA ad M).set p (ad p, x) = gcW cA ad M' := by
  apply List.ext_getElem?
  intro i
  by_cases hi : i < gN
  · rw [gcW_at cA ad M' hi]
    by_cases hip : i = p
    · subst hip
      rw [List.getElem?_set_self (by rw [gcW_len]; exact hi), hx]
    · rw [List.getElem?_set_ne (Ne.symm hip), gcW_at cA ad M hi, gcE_same (hM i hip)]
  · rw [List.getElem?_eq_none (by rw [List.length_set, gcW_len]; omega), List.getElem?_eq_none (by rw [gcW_len]; omega)]
theorem gU_ne {M : gM} {p j : Nat} {v : Int} {q : Nat} (h : q ≠ p) : gU M p j v q = M q := by
  funext k
  simp [gU, h]
theorem gCp_ne {M : gM} {q sp p dp n r : Nat} (h : r ≠ p) : gCp M q sp p dp n r = M r := by
  funext k
  simp [gCp, h]
theorem gLay_lt {p t n : Nat} {rs : List Nat} (h : gLay p = (t, n, rs)) (ht : t < 50) : p < gN := by
  by_cases hp : p < gN
  · exact hp
  · exfalso
    have hb : Nat.blt p gN = false := by
      cases hc : Nat.blt p gN with
      | false => rfl
      | true => exact absurd (Nat.blt_eq ▸ hc) (by simpa using hp)
    unfold gLay at h
    rw [hb] at h
    simp only [cond_false] at h
    unfold gLy2 at h
    split at h
    · cases h; omega
    · cases h; omega
    · cases h; omega
    · cases hc : (Nat.ble 1010 p && Nat.blt p 1017) <;> rw [hc] at h <;> simp only [cond_true, cond_false] at h <;> cases h <;> omega
def gTy (cA : Nat → ClassId) : List (ClassId × FieldType) := [(cA 0, .int), (cA 1, .boolean), (cA 2, .object RX1), (cA 3, .object RX0)]
-- what lies outside: fixed rows, the script, the strings
def gTb (p j : Nat) : Int := (((gLay p).2.2.getD j 0 : Nat) : Int) - 1
def gStrs : List (Nat × String) := [(98, "guest"), (100, "widow"), (102, "general"), (104, "child"), (106, "saint"), (108, "house"), (110, "pair")]
def gLens : List Nat := [5, 5, 7, 5, 5, 5, 4]
def gByts : List (List Int32) := [[103, 117, 101, 115, 116], [119, 105, 100, 111, 119], [103, 101, 110, 101, 114, 97, 108], [99, 104, 105, 108, 100], [115, 97, 105, 110, 116], [104, 111, 117, 115, 101], [112, 97, 105, 114]]
def gNest : List Cond := [(Jvm.Cond.methodLinkNest "GriefDoors$Text" (70 : Nat) ({ cls := "GriefDoors", name := "isWithin", desc := "(III)Z" } : Jvm.MethodName) "GriefDoors"), (Jvm.Cond.fieldLinkNest "GriefDoors$Griefs" (41 : Nat) "GriefDoors" "FADES" "[I" "GriefDoors"), (Jvm.Cond.fieldLinkNest "GriefDoors$People" (35 : Nat) "GriefDoors" "FADES" "[I" "GriefDoors"), (Jvm.Cond.methodLinkNest "GriefDoors$Sights" (39 : Nat) ({ cls := "GriefDoors", name := "stepOf", desc := "(I)I" } : Jvm.MethodName) "GriefDoors")]
def gSpc (M : gM) (ad adV : Nat → Nat) (A : Nat → Prop) (U : State) (H : Heap) : Prop :=
  va_Z "GriefDoors" "FADES" "[I" (.ref (ad 1002)) A U H ∧ va_Z "GriefDoors" "OVER" "[I" (.ref (ad 1003)) A U H ∧
  va_T .int (ad 1002) 5 (fun j => .int (gI (gTb 1002 j))) A U H ∧ va_T .int (ad 1003) 6 (fun j => .int (gI (gTb 1003 j))) A U H ∧
  (0 ≤ M 1001 0 ∧ va_T .int (ad 1000) (M 1001 0).toNat (fun j => .int (gI (M 1000 j))) A U H) ∧
  (∀ (j : Nat) (q : Nat × String), gStrs[j]? = some q → vk_R RX7 q.1 q.2 (ad (1010 + j)) U) ∧ vk_S 7 gLens gByts (fun i => ad (1010 + i)) adV A U H ∧
  va_Z "java/lang/String" "COMPACT_STRINGS" "Z" (.int 1) A U H ∧ va_Zq "jdk/internal/util/Preconditions" "SIOOBE_FORMATTER" "Ljava/util/function/BiFunction;" A U H ∧
  (∀ w ∈ gNest, va_Nw w U)
def gUW : List Cond := lw_tbl.filter goodWord
theorem gUW_good : GoodIn gUW gUW := fun w h => ⟨h, good_of_word (List.mem_filter.mp h).2⟩
def gFx (p : Program) (R : Room) (s : State) (m : MethodId) (args : Array Value) (c : Code) (cA : Nat → ClassId) (D : va_G) (ad adV : Nat → Nat) (A : Nat → Prop) (M0 : gM) (nL d ce so : Nat) (cc : ByteArray) (own : String) : Prop :=
  p.tables.exec = Jvm.exec ∧ c.code = cc ∧ c.maxLocals = nL ∧ s.vm.findClass own = some m.cls ∧ (∀ w ∈ gUW, w.before args s = true) ∧ va_K D vwCl (gTy cA) s ∧ gSpc M0 ad adV A s s.heap ∧ (∀ q, s.heap.size ≤ q → A q) ∧ (d + 1 ≤ R.frames ∧ ce ≤ R.cells ∧ so ≤ R.slots) ∧ 60 * (d + 1) ≤ R.locals
def gS (s : State) (cA : Nat → ClassId) (D : va_G) (ad : Nat → Nat) (A : Nat → Prop) (M0 : gM) (nL : Nat) (ls : gL) (M : gM) (H : Heap) (locs : List Loc) (as : Array Slot) : Prop :=
  va_P D vwCl (gcW cA ad M) H ∧ va_D A (gcW cA ad M) ∧ va_S A s.heap H locs ∧ gLH ad as nL ls ∧ M 1000 = M0 1000 ∧ M 1001 = M0 1001
def gG (p : Program) (l : Launch) (e : Env) (R : Room) (s : State) (m : MethodId) (args : Array Value) (below : List Frame) (meth : Method) (c : Code) (Q : State → Prop) (cA : Nat → ClassId) (D : va_G) (ad : Nat → Nat) (A : Nat → Prop) (M0 : gM) (nL ce so : Nat) (pc : Nat) (ls : gL) (st : List gV) (M : gM) : Prop :=
  ∀ (H : Heap) (locs : List Loc) (as : Array Slot), gS s cA D ad A M0 nL ls M H locs as → W p l e R s m args below meth c H locs ce so Q (F0 m pc as (st.map (gcV ad)))
-- numbers
theorem gI_add (x y : Int) : gI (x + y) = gI x + gI y := Int32.ofInt_add x y
theorem gI_sub (x y : Int) : gI (x - y) = gI x - gI y := Int32.ofInt_sub x y
theorem gI_mul (x y : Int) : gI (x * y) = gI x * gI y := Int32.ofInt_mul x y
theorem gI_back (x : Int32) : gI x.toInt = x := Int32.ofInt_toInt x
theorem gLt_iff {x y : Int} : gLt x y = true ↔ gI x < gI y := by
  rw [gLt_eq, decide_eq_true_iff]
  exact Int32.lt_iff_toInt_lt.symm
theorem gLt_iff' {x y : Int} : gLt x y = false ↔ ¬ gI x < gI y := by
  rw [← gLt_iff]; simp
theorem gEq_iff {x y : Int} : gEq x y = true ↔ gI x = gI y := by
  rw [gEq_eq, decide_eq_true_iff]
  exact ⟨fun h => Int32.toInt_inj.mp h, fun h => by unfold gW; rw [h]⟩
theorem gEq_iff' {x y : Int} : gEq x y = false ↔ ¬ gI x = gI y := by
  rw [← gEq_iff]; simp
theorem gI_0 : gI 0 = 0 := rfl
theorem gInb_in {i : Int} {n : Nat} (h : gInb i n = true) : vp_in (gI i) n := by
  rw [gInb_eq, decide_eq_true_iff] at h
  exact vp_in_iff.mpr h
theorem gIf_some {α : Type} {b : Bool} {x : Option α} {r : α} (h : gIf b x = some r) : b = true ∧ x = some r := by
  cases b with
  | true => exact ⟨rfl, h⟩
  | false => cases h
theorem gcV_int (ad : Nat → Nat) (x : Int) : gcV ad (.inl x) = .int (gI x) := rfl
theorem gs_iconst {p : Program} {l : Launch} {e : Env} {R : Room} {s : State} {m : MethodId} {args : Array Value} {below : List Frame} {meth : Method} {c : Code} {Q : State → Prop} {cA : Nat → ClassId} {D : va_G} {ad adV : Nat → Nat} {A : Nat → Prop} {M0 : gM} {nL d ce so : Nat} {cc : ByteArray} {own : String} {pc : Nat} {ls : gL} {st : List gV} {M : gM} {n : Int} (hF : gFx p R s m args c cA D ad adV A M0 nL d ce so cc own) (hd : decode cc pc = .ok (.iconst n, 1)) (hK : gG p l e R s m args below meth c Q cA D ad A M0 nL ce so (pc + 1) ls (.inl n :: st) M) : gG p l e R s m args below meth c Q cA D ad A M0 nL ce so pc ls (st) M := by
  intro H locs as hS
  have h := hK H locs as hS
  exact lv_iconst hF.1 hF.2.1 hd rfl h
theorem gs_bipush {p : Program} {l : Launch} {e : Env} {R : Room} {s : State} {m : MethodId} {args : Array Value} {below : List Frame} {meth : Method} {c : Code} {Q : State → Prop} {cA : Nat → ClassId} {D : va_G} {ad adV : Nat → Nat} {A : Nat → Prop} {M0 : gM} {nL d ce so : Nat} {cc : ByteArray} {own : String} {pc : Nat} {ls : gL} {st : List gV} {M : gM} {n : Int} (hn : (Int8.ofInt n).toInt32 = gI n) (hF : gFx p R s m args c cA D ad adV A M0 nL d ce so cc own) (hd : decode cc pc = .ok (.bipush n, 2)) (hK : gG p l e R s m args below meth c Q cA D ad A M0 nL ce so (pc + 2) ls (.inl n :: st) M) : gG p l e R s m args below meth c Q cA D ad A M0 nL ce so pc ls (st) M := by
  intro H locs as hS
  have h := hK H locs as hS
  exact lv_bipush hF.1 hF.2.1 hd hn h
theorem gs_sipush {p : Program} {l : Launch} {e : Env} {R : Room} {s : State} {m : MethodId} {args : Array Value} {below : List Frame} {meth : Method} {c : Code} {Q : State → Prop} {cA : Nat → ClassId} {D : va_G} {ad adV : Nat → Nat} {A : Nat → Prop} {M0 : gM} {nL d ce so : Nat} {cc : ByteArray} {own : String} {pc : Nat} {ls : gL} {st : List gV} {M : gM} {n : Int} (hn : (Int16.ofInt n).toInt32 = gI n) (hF : gFx p R s m args c cA D ad adV A M0 nL d ce so cc own) (hd : decode cc pc = .ok (.sipush n, 3)) (hK : gG p l e R s m args below meth c Q cA D ad A M0 nL ce so (pc + 3) ls (.inl n :: st) M) : gG p l e R s m args below meth c Q cA D ad A M0 nL ce so pc ls (st) M := by
  intro H locs as hS
  have h := hK H locs as hS
  exact lv_sipush hF.1 hF.2.1 hd hn h
theorem gs_lconst {p : Program} {l : Launch} {e : Env} {R : Room} {s : State} {m : MethodId} {args : Array Value} {below : List Frame} {meth : Method} {c : Code} {Q : State → Prop} {cA : Nat → ClassId} {D : va_G} {ad adV : Nat → Nat} {A : Nat → Prop} {M0 : gM} {nL d ce so : Nat} {cc : ByteArray} {own : String} {pc : Nat} {ls : gL} {st : List gV} {M : gM} {n : Fin 2} (hF : gFx p R s m args c cA D ad adV A M0 nL d ce so cc own) (hd : decode cc pc = .ok (.lconst n, 1)) (hK : gG p l e R s m args below meth c Q cA D ad A M0 nL ce so (pc + 1) ls (.inr (.inl ((n : Nat) : Int)) :: st) M) : gG p l e R s m args below meth c Q cA D ad A M0 nL ce so pc ls (st) M := by
  intro H locs as hS
  have h := hK H locs as hS
  exact lv_lconst hF.1 hF.2.1 hd (Int64.ofInt_eq_ofNat).symm h
theorem gs_iadd {p : Program} {l : Launch} {e : Env} {R : Room} {s : State} {m : MethodId} {args : Array Value} {below : List Frame} {meth : Method} {c : Code} {Q : State → Prop} {cA : Nat → ClassId} {D : va_G} {ad adV : Nat → Nat} {A : Nat → Prop} {M0 : gM} {nL d ce so : Nat} {cc : ByteArray} {own : String} {pc : Nat} {ls : gL} {st : List gV} {M : gM} {x y : Int} (hF : gFx p R s m args c cA D ad adV A M0 nL d ce so cc own) (hd : decode cc pc = .ok (.iadd, 1)) (hK : gG p l e R s m args below meth c Q cA D ad A M0 nL ce so (pc + 1) ls (.inl (x + y) :: st) M) : gG p l e R s m args below meth c Q cA D ad A M0 nL ce so pc ls (.inl y :: .inl x :: st) M := by
  intro H locs as hS
  have h := hK H locs as hS
  simp only [List.map_cons, gcV_int, gI_add] at h ⊢
  exact lv_iadd hF.1 hF.2.1 hd h
theorem gs_isub {p : Program} {l : Launch} {e : Env} {R : Room} {s : State} {m : MethodId} {args : Array Value} {below : List Frame} {meth : Method} {c : Code} {Q : State → Prop} {cA : Nat → ClassId} {D : va_G} {ad adV : Nat → Nat} {A : Nat → Prop} {M0 : gM} {nL d ce so : Nat} {cc : ByteArray} {own : String} {pc : Nat} {ls : gL} {st : List gV} {M : gM} {x y : Int} (hF : gFx p R s m args c cA D ad adV A M0 nL d ce so cc own) (hd : decode cc pc = .ok (.isub, 1)) (hK : gG p l e R s m args below meth c Q cA D ad A M0 nL ce so (pc + 1) ls (.inl (x - y) :: st) M) : gG p l e R s m args below meth c Q cA D ad A M0 nL ce so pc ls (.inl y :: .inl x :: st) M := by
  intro H locs as hS
  have h := hK H locs as hS
  simp only [List.map_cons, gcV_int, gI_sub] at h ⊢
  exact lv_isub hF.1 hF.2.1 hd h
theorem gs_imul {p : Program} {l : Launch} {e : Env} {R : Room} {s : State} {m : MethodId} {args : Array Value} {below : List Frame} {meth : Method} {c : Code} {Q : State → Prop} {cA : Nat → ClassId} {D : va_G} {ad adV : Nat → Nat} {A : Nat → Prop} {M0 : gM} {nL d ce so : Nat} {cc : ByteArray} {own : String} {pc : Nat} {ls : gL} {st : List gV} {M : gM} {x y : Int} (hF : gFx p R s m args c cA D ad adV A M0 nL d ce so cc own) (hd : decode cc pc = .ok (.imul, 1)) (hK : gG p l e R s m args below meth c Q cA D ad A M0 nL ce so (pc + 1) ls (.inl (x * y) :: st) M) : gG p l e R s m args below meth c Q cA D ad A M0 nL ce so pc ls (.inl y :: .inl x :: st) M := by
  intro H locs as hS
  have h := hK H locs as hS
  simp only [List.map_cons, gcV_int, gI_mul] at h ⊢
  exact lv_imul hF.1 hF.2.1 hd h
theorem gs_iand {p : Program} {l : Launch} {e : Env} {R : Room} {s : State} {m : MethodId} {args : Array Value} {below : List Frame} {meth : Method} {c : Code} {Q : State → Prop} {cA : Nat → ClassId} {D : va_G} {ad adV : Nat → Nat} {A : Nat → Prop} {M0 : gM} {nL d ce so : Nat} {cc : ByteArray} {own : String} {pc : Nat} {ls : gL} {st : List gV} {M : gM} {x y : Int} (hF : gFx p R s m args c cA D ad adV A M0 nL d ce so cc own) (hd : decode cc pc = .ok (.iand, 1)) (hK : gG p l e R s m args below meth c Q cA D ad A M0 nL ce so (pc + 1) ls (.inl (gAnd x y) :: st) M) : gG p l e R s m args below meth c Q cA D ad A M0 nL ce so pc ls (.inl y :: .inl x :: st) M := by
  intro H locs as hS
  have h := hK H locs as hS
  simp only [List.map_cons, gcV_int, gAnd, gI_back] at h ⊢
  exact lv_iand hF.1 hF.2.1 hd h
theorem gs_ior {p : Program} {l : Launch} {e : Env} {R : Room} {s : State} {m : MethodId} {args : Array Value} {below : List Frame} {meth : Method} {c : Code} {Q : State → Prop} {cA : Nat → ClassId} {D : va_G} {ad adV : Nat → Nat} {A : Nat → Prop} {M0 : gM} {nL d ce so : Nat} {cc : ByteArray} {own : String} {pc : Nat} {ls : gL} {st : List gV} {M : gM} {x y : Int} (hF : gFx p R s m args c cA D ad adV A M0 nL d ce so cc own) (hd : decode cc pc = .ok (.ior, 1)) (hK : gG p l e R s m args below meth c Q cA D ad A M0 nL ce so (pc + 1) ls (.inl (gOr x y) :: st) M) : gG p l e R s m args below meth c Q cA D ad A M0 nL ce so pc ls (.inl y :: .inl x :: st) M := by
  intro H locs as hS
  have h := hK H locs as hS
  simp only [List.map_cons, gcV_int, gOr, gI_back] at h ⊢
  exact lv_ior hF.1 hF.2.1 hd h
theorem gs_ixor {p : Program} {l : Launch} {e : Env} {R : Room} {s : State} {m : MethodId} {args : Array Value} {below : List Frame} {meth : Method} {c : Code} {Q : State → Prop} {cA : Nat → ClassId} {D : va_G} {ad adV : Nat → Nat} {A : Nat → Prop} {M0 : gM} {nL d ce so : Nat} {cc : ByteArray} {own : String} {pc : Nat} {ls : gL} {st : List gV} {M : gM} {x y : Int} (hF : gFx p R s m args c cA D ad adV A M0 nL d ce so cc own) (hd : decode cc pc = .ok (.ixor, 1)) (hK : gG p l e R s m args below meth c Q cA D ad A M0 nL ce so (pc + 1) ls (.inl (gXor x y) :: st) M) : gG p l e R s m args below meth c Q cA D ad A M0 nL ce so pc ls (.inl y :: .inl x :: st) M := by
  intro H locs as hS
  have h := hK H locs as hS
  simp only [List.map_cons, gcV_int, gXor, gI_back] at h ⊢
  exact lv_ixor hF.1 hF.2.1 hd h
theorem gs_ishl {p : Program} {l : Launch} {e : Env} {R : Room} {s : State} {m : MethodId} {args : Array Value} {below : List Frame} {meth : Method} {c : Code} {Q : State → Prop} {cA : Nat → ClassId} {D : va_G} {ad adV : Nat → Nat} {A : Nat → Prop} {M0 : gM} {nL d ce so : Nat} {cc : ByteArray} {own : String} {pc : Nat} {ls : gL} {st : List gV} {M : gM} {x y : Int} (hF : gFx p R s m args c cA D ad adV A M0 nL d ce so cc own) (hd : decode cc pc = .ok (.ishl, 1)) (hK : gG p l e R s m args below meth c Q cA D ad A M0 nL ce so (pc + 1) ls (.inl (gShl x y) :: st) M) : gG p l e R s m args below meth c Q cA D ad A M0 nL ce so pc ls (.inl y :: .inl x :: st) M := by
  intro H locs as hS
  have h := hK H locs as hS
  simp only [List.map_cons, gcV_int, gShl, gI_back] at h ⊢
  exact lv_ishl hF.1 hF.2.1 hd h
theorem gs_ishr {p : Program} {l : Launch} {e : Env} {R : Room} {s : State} {m : MethodId} {args : Array Value} {below : List Frame} {meth : Method} {c : Code} {Q : State → Prop} {cA : Nat → ClassId} {D : va_G} {ad adV : Nat → Nat} {A : Nat → Prop} {M0 : gM} {nL d ce so : Nat} {cc : ByteArray} {own : String} {pc : Nat} {ls : gL} {st : List gV} {M : gM} {x y : Int} (hF : gFx p R s m args c cA D ad adV A M0 nL d ce so cc own) (hd : decode cc pc = .ok (.ishr, 1)) (hK : gG p l e R s m args below meth c Q cA D ad A M0 nL ce so (pc + 1) ls (.inl (gShr x y) :: st) M) : gG p l e R s m args below meth c Q cA D ad A M0 nL ce so pc ls (.inl y :: .inl x :: st) M := by
  intro H locs as hS
  have h := hK H locs as hS
  simp only [List.map_cons, gcV_int, gShr, gI_back] at h ⊢
  exact lv_ishr hF.1 hF.2.1 hd h
theorem gs_idiv {p : Program} {l : Launch} {e : Env} {R : Room} {s : State} {m : MethodId} {args : Array Value} {below : List Frame} {meth : Method} {c : Code} {Q : State → Prop} {cA : Nat → ClassId} {D : va_G} {ad adV : Nat → Nat} {A : Nat → Prop} {M0 : gM} {nL d ce so : Nat} {cc : ByteArray} {own : String} {pc : Nat} {ls : gL} {st : List gV} {M : gM} {x y : Int} (hy : ¬ gI y = 0) (hF : gFx p R s m args c cA D ad adV A M0 nL d ce so cc own) (hd : decode cc pc = .ok (.idiv, 1)) (hK : gG p l e R s m args below meth c Q cA D ad A M0 nL ce so (pc + 1) ls (.inl (gDiv x y) :: st) M) : gG p l e R s m args below meth c Q cA D ad A M0 nL ce so pc ls (.inl y :: .inl x :: st) M := by
  intro H locs as hS
  have h := hK H locs as hS
  simp only [List.map_cons, gcV_int, gDiv, gI_back] at h ⊢
  exact lv_idiv hF.1 hF.2.1 hd hy h
theorem gs_irem {p : Program} {l : Launch} {e : Env} {R : Room} {s : State} {m : MethodId} {args : Array Value} {below : List Frame} {meth : Method} {c : Code} {Q : State → Prop} {cA : Nat → ClassId} {D : va_G} {ad adV : Nat → Nat} {A : Nat → Prop} {M0 : gM} {nL d ce so : Nat} {cc : ByteArray} {own : String} {pc : Nat} {ls : gL} {st : List gV} {M : gM} {x y : Int} (hy : ¬ gI y = 0) (hF : gFx p R s m args c cA D ad adV A M0 nL d ce so cc own) (hd : decode cc pc = .ok (.irem, 1)) (hK : gG p l e R s m args below meth c Q cA D ad A M0 nL ce so (pc + 1) ls (.inl (gRem x y) :: st) M) : gG p l e R s m args below meth c Q cA D ad A M0 nL ce so pc ls (.inl y :: .inl x :: st) M := by
  intro H locs as hS
  have h := hK H locs as hS
  simp only [List.map_cons, gcV_int, gRem, gI_back] at h ⊢
  exact lv_irem hF.1 hF.2.1 hd hy h
theorem gs_i2l {p : Program} {l : Launch} {e : Env} {R : Room} {s : State} {m : MethodId} {args : Array Value} {below : List Frame} {meth : Method} {c : Code} {Q : State → Prop} {cA : Nat → ClassId} {D : va_G} {ad adV : Nat → Nat} {A : Nat → Prop} {M0 : gM} {nL d ce so : Nat} {cc : ByteArray} {own : String} {pc : Nat} {ls : gL} {st : List gV} {M : gM} {x : Int} (hF : gFx p R s m args c cA D ad adV A M0 nL d ce so cc own) (hd : decode cc pc = .ok (.i2l, 1)) (hK : gG p l e R s m args below meth c Q cA D ad A M0 nL ce so (pc + 1) ls (.inr (.inl (gW x)) :: st) M) : gG p l e R s m args below meth c Q cA D ad A M0 nL ce so pc ls (.inl x :: st) M := by
  intro H locs as hS
  have h := hK H locs as hS
  exact lv_i2l hF.1 hF.2.1 hd rfl h
theorem gs_ladd {p : Program} {l : Launch} {e : Env} {R : Room} {s : State} {m : MethodId} {args : Array Value} {below : List Frame} {meth : Method} {c : Code} {Q : State → Prop} {cA : Nat → ClassId} {D : va_G} {ad adV : Nat → Nat} {A : Nat → Prop} {M0 : gM} {nL d ce so : Nat} {cc : ByteArray} {own : String} {pc : Nat} {ls : gL} {st : List gV} {M : gM} {x y : Int} (hF : gFx p R s m args c cA D ad adV A M0 nL d ce so cc own) (hd : decode cc pc = .ok (.ladd, 1)) (hK : gG p l e R s m args below meth c Q cA D ad A M0 nL ce so (pc + 1) ls (.inr (.inl (x + y)) :: st) M) : gG p l e R s m args below meth c Q cA D ad A M0 nL ce so pc ls (.inr (.inl y) :: .inr (.inl x) :: st) M := by
  intro H locs as hS
  have h := hK H locs as hS
  have e : gcV ad (.inr (.inl (x + y))) = .long (gJ x + gJ y) := congrArg Value.long (Int64.ofInt_add x y)
  simp only [List.map_cons, e] at h
  exact lv_ladd hF.1 hF.2.1 hd h
theorem gs_lcmp {p : Program} {l : Launch} {e : Env} {R : Room} {s : State} {m : MethodId} {args : Array Value} {below : List Frame} {meth : Method} {c : Code} {Q : State → Prop} {cA : Nat → ClassId} {D : va_G} {ad adV : Nat → Nat} {A : Nat → Prop} {M0 : gM} {nL d ce so : Nat} {cc : ByteArray} {own : String} {pc : Nat} {ls : gL} {st : List gV} {M : gM} {x y : Int} (hF : gFx p R s m args c cA D ad adV A M0 nL d ce so cc own) (hd : decode cc pc = .ok (.lcmp, 1)) (hK : gG p l e R s m args below meth c Q cA D ad A M0 nL ce so (pc + 1) ls (.inl (gLc x y) :: st) M) : gG p l e R s m args below meth c Q cA D ad A M0 nL ce so pc ls (.inr (.inl y) :: .inr (.inl x) :: st) M := by
  intro H locs as hS
  have h := hK H locs as hS
  simp only [List.map_cons, gcV_int, gLc, gI_back] at h
  exact W.lcmp hF.1 hF.2.1 hd h
theorem gs_dupi {p : Program} {l : Launch} {e : Env} {R : Room} {s : State} {m : MethodId} {args : Array Value} {below : List Frame} {meth : Method} {c : Code} {Q : State → Prop} {cA : Nat → ClassId} {D : va_G} {ad adV : Nat → Nat} {A : Nat → Prop} {M0 : gM} {nL d ce so : Nat} {cc : ByteArray} {own : String} {pc : Nat} {ls : gL} {st : List gV} {M : gM} {x : Int} (hF : gFx p R s m args c cA D ad adV A M0 nL d ce so cc own) (hd : decode cc pc = .ok (.dup, 1)) (hK : gG p l e R s m args below meth c Q cA D ad A M0 nL ce so (pc + 1) ls (.inl x :: .inl x :: st) M) : gG p l e R s m args below meth c Q cA D ad A M0 nL ce so pc ls (.inl x :: st) M := by
  intro H locs as hS
  have h := hK H locs as hS
  exact lv_dup hF.1 hF.2.1 hd rfl h
theorem gs_dupr {p : Program} {l : Launch} {e : Env} {R : Room} {s : State} {m : MethodId} {args : Array Value} {below : List Frame} {meth : Method} {c : Code} {Q : State → Prop} {cA : Nat → ClassId} {D : va_G} {ad adV : Nat → Nat} {A : Nat → Prop} {M0 : gM} {nL d ce so : Nat} {cc : ByteArray} {own : String} {pc : Nat} {ls : gL} {st : List gV} {M : gM} {r : Nat} (hF : gFx p R s m args c cA D ad adV A M0 nL d ce so cc own) (hd : decode cc pc = .ok (.dup, 1)) (hK : gG p l e R s m args below meth c Q cA D ad A M0 nL ce so (pc + 1) ls (.inr (.inr r) :: .inr (.inr r) :: st) M) : gG p l e R s m args below meth c Q cA D ad A M0 nL ce so pc ls (.inr (.inr r) :: st) M := by
  intro H locs as hS
  have h := hK H locs as hS
  cases r <;> exact lv_dup hF.1 hF.2.1 hd rfl h
theorem gs_dup2 {p : Program} {l : Launch} {e : Env} {R : Room} {s : State} {m : MethodId} {args : Array Value} {below : List Frame} {meth : Method} {c : Code} {Q : State → Prop} {cA : Nat → ClassId} {D : va_G} {ad adV : Nat → Nat} {A : Nat → Prop} {M0 : gM} {nL d ce so : Nat} {cc : ByteArray} {own : String} {pc : Nat} {ls : gL} {st : List gV} {M : gM} {x : Int} {r : Nat} (hF : gFx p R s m args c cA D ad adV A M0 nL d ce so cc own) (hd : decode cc pc = .ok (.dup2, 1)) (hK : gG p l e R s m args below meth c Q cA D ad A M0 nL ce so (pc + 1) ls (.inl x :: .inr (.inr r) :: .inl x :: .inr (.inr r) :: st) M) : gG p l e R s m args below meth c Q cA D ad A M0 nL ce so pc ls (.inl x :: .inr (.inr r) :: st) M := by
  intro H locs as hS
  have h := hK H locs as hS
  cases r <;> exact lv_dup2_11 hF.1 hF.2.1 hd rfl rfl h
theorem gs_pop {p : Program} {l : Launch} {e : Env} {R : Room} {s : State} {m : MethodId} {args : Array Value} {below : List Frame} {meth : Method} {c : Code} {Q : State → Prop} {cA : Nat → ClassId} {D : va_G} {ad adV : Nat → Nat} {A : Nat → Prop} {M0 : gM} {nL d ce so : Nat} {cc : ByteArray} {own : String} {pc : Nat} {ls : gL} {st : List gV} {M : gM} {x : Int} (hF : gFx p R s m args c cA D ad adV A M0 nL d ce so cc own) (hd : decode cc pc = .ok (.pop, 1)) (hK : gG p l e R s m args below meth c Q cA D ad A M0 nL ce so (pc + 1) ls (st) M) : gG p l e R s m args below meth c Q cA D ad A M0 nL ce so pc ls (.inl x :: st) M := by
  intro H locs as hS
  have h := hK H locs as hS
  exact lv_pop hF.1 hF.2.1 hd rfl h
theorem gs_iload {p : Program} {l : Launch} {e : Env} {R : Room} {s : State} {m : MethodId} {args : Array Value} {below : List Frame} {meth : Method} {c : Code} {Q : State → Prop} {cA : Nat → ClassId} {D : va_G} {ad adV : Nat → Nat} {A : Nat → Prop} {M0 : gM} {nL d ce so : Nat} {cc : ByteArray} {own : String} {pc : Nat} {ls : gL} {st : List gV} {M : gM} {x : Int} {i : Nat} (hi : ls[i]? = some (some (.inl x))) (hF : gFx p R s m args c cA D ad adV A M0 nL d ce so cc own) (hd : decode cc pc = .ok (.iload i, 2)) (hK : gG p l e R s m args below meth c Q cA D ad A M0 nL ce so (pc + 2) ls (.inl x :: st) M) : gG p l e R s m args below meth c Q cA D ad A M0 nL ce so pc ls (st) M := by
  intro H locs as hS
  have h := hK H locs as hS
  exact lv_iload hF.1 hF.2.1 hd (hS.2.2.2.1.2.2.2 _ _ hi) h
theorem gs_iload_n {p : Program} {l : Launch} {e : Env} {R : Room} {s : State} {m : MethodId} {args : Array Value} {below : List Frame} {meth : Method} {c : Code} {Q : State → Prop} {cA : Nat → ClassId} {D : va_G} {ad adV : Nat → Nat} {A : Nat → Prop} {M0 : gM} {nL d ce so : Nat} {cc : ByteArray} {own : String} {pc : Nat} {ls : gL} {st : List gV} {M : gM} {x : Int} {i : Fin 4} (hi : ls[(i : Nat)]? = some (some (.inl x))) (hF : gFx p R s m args c cA D ad adV A M0 nL d ce so cc own) (hd : decode cc pc = .ok (.iload_n i, 1)) (hK : gG p l e R s m args below meth c Q cA D ad A M0 nL ce so (pc + 1) ls (.inl x :: st) M) : gG p l e R s m args below meth c Q cA D ad A M0 nL ce so pc ls (st) M := by
  intro H locs as hS
  have h := hK H locs as hS
  exact lv_iload_n hF.1 hF.2.1 hd rfl (hS.2.2.2.1.2.2.2 _ _ hi) h
theorem gs_lload {p : Program} {l : Launch} {e : Env} {R : Room} {s : State} {m : MethodId} {args : Array Value} {below : List Frame} {meth : Method} {c : Code} {Q : State → Prop} {cA : Nat → ClassId} {D : va_G} {ad adV : Nat → Nat} {A : Nat → Prop} {M0 : gM} {nL d ce so : Nat} {cc : ByteArray} {own : String} {pc : Nat} {ls : gL} {st : List gV} {M : gM} {x : Int} {i : Nat} (hi : ls[i]? = some (some (.inr (.inl x)))) (hF : gFx p R s m args c cA D ad adV A M0 nL d ce so cc own) (hd : decode cc pc = .ok (.lload i, 2)) (hK : gG p l e R s m args below meth c Q cA D ad A M0 nL ce so (pc + 2) ls (.inr (.inl x) :: st) M) : gG p l e R s m args below meth c Q cA D ad A M0 nL ce so pc ls (st) M := by
  intro H locs as hS
  have h := hK H locs as hS
  exact lv_lload hF.1 hF.2.1 hd (hS.2.2.2.1.2.2.2 _ _ hi) h
theorem gs_lload_n {p : Program} {l : Launch} {e : Env} {R : Room} {s : State} {m : MethodId} {args : Array Value} {below : List Frame} {meth : Method} {c : Code} {Q : State → Prop} {cA : Nat → ClassId} {D : va_G} {ad adV : Nat → Nat} {A : Nat → Prop} {M0 : gM} {nL d ce so : Nat} {cc : ByteArray} {own : String} {pc : Nat} {ls : gL} {st : List gV} {M : gM} {x : Int} {i : Fin 4} (hi : ls[(i : Nat)]? = some (some (.inr (.inl x)))) (hF : gFx p R s m args c cA D ad adV A M0 nL d ce so cc own) (hd : decode cc pc = .ok (.lload_n i, 1)) (hK : gG p l e R s m args below meth c Q cA D ad A M0 nL ce so (pc + 1) ls (.inr (.inl x) :: st) M) : gG p l e R s m args below meth c Q cA D ad A M0 nL ce so pc ls (st) M := by
  intro H locs as hS
  have h := hK H locs as hS
  exact lv_lload_n hF.1 hF.2.1 hd rfl (hS.2.2.2.1.2.2.2 _ _ hi) h
theorem gs_aload {p : Program} {l : Launch} {e : Env} {R : Room} {s : State} {m : MethodId} {args : Array Value} {below : List Frame} {meth : Method} {c : Code} {Q : State → Prop} {cA : Nat → ClassId} {D : va_G} {ad adV : Nat → Nat} {A : Nat → Prop} {M0 : gM} {nL d ce so : Nat} {cc : ByteArray} {own : String} {pc : Nat} {ls : gL} {st : List gV} {M : gM} {x : Nat} {i : Nat} (hi : ls[i]? = some (some (.inr (.inr (x + 1))))) (hF : gFx p R s m args c cA D ad adV A M0 nL d ce so cc own) (hd : decode cc pc = .ok (.aload i, 2)) (hK : gG p l e R s m args below meth c Q cA D ad A M0 nL ce so (pc + 2) ls (.inr (.inr (x + 1)) :: st) M) : gG p l e R s m args below meth c Q cA D ad A M0 nL ce so pc ls (st) M := by
  intro H locs as hS
  have h := hK H locs as hS
  exact lv_aload hF.1 hF.2.1 hd (hS.2.2.2.1.2.2.2 _ _ hi) h
theorem gs_aload_n {p : Program} {l : Launch} {e : Env} {R : Room} {s : State} {m : MethodId} {args : Array Value} {below : List Frame} {meth : Method} {c : Code} {Q : State → Prop} {cA : Nat → ClassId} {D : va_G} {ad adV : Nat → Nat} {A : Nat → Prop} {M0 : gM} {nL d ce so : Nat} {cc : ByteArray} {own : String} {pc : Nat} {ls : gL} {st : List gV} {M : gM} {x : Nat} {i : Fin 4} (hi : ls[(i : Nat)]? = some (some (.inr (.inr (x + 1))))) (hF : gFx p R s m args c cA D ad adV A M0 nL d ce so cc own) (hd : decode cc pc = .ok (.aload_n i, 1)) (hK : gG p l e R s m args below meth c Q cA D ad A M0 nL ce so (pc + 1) ls (.inr (.inr (x + 1)) :: st) M) : gG p l e R s m args below meth c Q cA D ad A M0 nL ce so pc ls (st) M := by
  intro H locs as hS
  have h := hK H locs as hS
  exact lv_aload_n hF.1 hF.2.1 hd rfl (hS.2.2.2.1.2.2.2 _ _ hi) h
theorem gs_istore {p : Program} {l : Launch} {e : Env} {R : Room} {s : State} {m : MethodId} {args : Array Value} {below : List Frame} {meth : Method} {c : Code} {Q : State → Prop} {cA : Nat → ClassId} {D : va_G} {ad adV : Nat → Nat} {A : Nat → Prop} {M0 : gM} {nL d ce so : Nat} {cc : ByteArray} {own : String} {pc : Nat} {ls : gL} {st : List gV} {M : gM} {x : Int} {i : Nat} (hi : (gOkS ls i && Nat.blt i ls.length) = true) (hF : gFx p R s m args c cA D ad adV A M0 nL d ce so cc own) (hd : decode cc pc = .ok (.istore i, 2)) (hK : gG p l e R s m args below meth c Q cA D ad A M0 nL ce so (pc + 2) (ls.set i (some (.inl x))) st M) : gG p l e R s m args below meth c Q cA D ad A M0 nL ce so pc ls (.inl x :: st) M := by
  intro H locs as hS
  obtain ⟨h1, h2, h3, h4, h5⟩ := hS
  have hlt : i < nL := by
    rw [← h4.2.1]
    rw [Bool.and_eq_true] at hi
    exact Nat.blt_eq.mp hi.2
  exact lv_istore hF.1 hF.2.1 hd h4.has hlt rfl (fun as' h' => hK H locs as' ⟨h1, h2, h3, h4.store hi h', h5⟩)
theorem gs_istore_n {p : Program} {l : Launch} {e : Env} {R : Room} {s : State} {m : MethodId} {args : Array Value} {below : List Frame} {meth : Method} {c : Code} {Q : State → Prop} {cA : Nat → ClassId} {D : va_G} {ad adV : Nat → Nat} {A : Nat → Prop} {M0 : gM} {nL d ce so : Nat} {cc : ByteArray} {own : String} {pc : Nat} {ls : gL} {st : List gV} {M : gM} {x : Int} {i : Fin 4} (hi : (gOkS ls (i : Nat) && Nat.blt (i : Nat) ls.length) = true) (hF : gFx p R s m args c cA D ad adV A M0 nL d ce so cc own) (hd : decode cc pc = .ok (.istore_n i, 1)) (hK : gG p l e R s m args below meth c Q cA D ad A M0 nL ce so (pc + 1) (ls.set (i : Nat) (some (.inl x))) st M) : gG p l e R s m args below meth c Q cA D ad A M0 nL ce so pc ls (.inl x :: st) M := by
  intro H locs as hS
  obtain ⟨h1, h2, h3, h4, h5⟩ := hS
  have hlt : (i : Nat) < nL := by
    rw [← h4.2.1]
    rw [Bool.and_eq_true] at hi
    exact Nat.blt_eq.mp hi.2
  exact lv_istore_n hF.1 hF.2.1 hd rfl h4.has hlt rfl (fun as' h' => hK H locs as' ⟨h1, h2, h3, h4.store hi h', h5⟩)
theorem gs_astore {p : Program} {l : Launch} {e : Env} {R : Room} {s : State} {m : MethodId} {args : Array Value} {below : List Frame} {meth : Method} {c : Code} {Q : State → Prop} {cA : Nat → ClassId} {D : va_G} {ad adV : Nat → Nat} {A : Nat → Prop} {M0 : gM} {nL d ce so : Nat} {cc : ByteArray} {own : String} {pc : Nat} {ls : gL} {st : List gV} {M : gM} {x : Nat} {i : Nat} (hi : (gOkS ls i && Nat.blt i ls.length) = true) (hF : gFx p R s m args c cA D ad adV A M0 nL d ce so cc own) (hd : decode cc pc = .ok (.astore i, 2)) (hK : gG p l e R s m args below meth c Q cA D ad A M0 nL ce so (pc + 2) (ls.set i (some (.inr (.inr (x + 1))))) st M) : gG p l e R s m args below meth c Q cA D ad A M0 nL ce so pc ls (.inr (.inr (x + 1)) :: st) M := by
  intro H locs as hS
  obtain ⟨h1, h2, h3, h4, h5⟩ := hS
  have hlt : i < nL := by
    rw [← h4.2.1]
    rw [Bool.and_eq_true] at hi
    exact Nat.blt_eq.mp hi.2
  exact lv_astore hF.1 hF.2.1 hd h4.has hlt rfl (fun as' h' => hK H locs as' ⟨h1, h2, h3, h4.store hi h', h5⟩)
theorem gs_astore_n {p : Program} {l : Launch} {e : Env} {R : Room} {s : State} {m : MethodId} {args : Array Value} {below : List Frame} {meth : Method} {c : Code} {Q : State → Prop} {cA : Nat → ClassId} {D : va_G} {ad adV : Nat → Nat} {A : Nat → Prop} {M0 : gM} {nL d ce so : Nat} {cc : ByteArray} {own : String} {pc : Nat} {ls : gL} {st : List gV} {M : gM} {x : Nat} {i : Fin 4} (hi : (gOkS ls (i : Nat) && Nat.blt (i : Nat) ls.length) = true) (hF : gFx p R s m args c cA D ad adV A M0 nL d ce so cc own) (hd : decode cc pc = .ok (.astore_n i, 1)) (hK : gG p l e R s m args below meth c Q cA D ad A M0 nL ce so (pc + 1) (ls.set (i : Nat) (some (.inr (.inr (x + 1))))) st M) : gG p l e R s m args below meth c Q cA D ad A M0 nL ce so pc ls (.inr (.inr (x + 1)) :: st) M := by
  intro H locs as hS
  obtain ⟨h1, h2, h3, h4, h5⟩ := hS
  have hlt : (i : Nat) < nL := by
    rw [← h4.2.1]
    rw [Bool.and_eq_true] at hi
    exact Nat.blt_eq.mp hi.2
  exact lv_astore_n hF.1 hF.2.1 hd rfl h4.has hlt rfl (fun as' h' => hK H locs as' ⟨h1, h2, h3, h4.store hi h', h5⟩)
theorem gs_iinc {p : Program} {l : Launch} {e : Env} {R : Room} {s : State} {m : MethodId} {args : Array Value} {below : List Frame} {meth : Method} {c : Code} {Q : State → Prop} {cA : Nat → ClassId} {D : va_G} {ad adV : Nat → Nat} {A : Nat → Prop} {M0 : gM} {nL d ce so : Nat} {cc : ByteArray} {own : String} {pc : Nat} {ls : gL} {st : List gV} {M : gM} {x n : Int} {i : Nat} (hx : ls[i]? = some (some (.inl x))) (hi : (gOkS ls i && Nat.blt i ls.length) = true) (hF : gFx p R s m args c cA D ad adV A M0 nL d ce so cc own) (hd : decode cc pc = .ok (.iinc i n, 3)) (hK : gG p l e R s m args below meth c Q cA D ad A M0 nL ce so (pc + 3) (ls.set i (some (.inl (x + n)))) st M) : gG p l e R s m args below meth c Q cA D ad A M0 nL ce so pc ls st M := by
  intro H locs as hS
  obtain ⟨h1, h2, h3, h4, h5⟩ := hS
  have hlt : i < nL := by
    rw [← h4.2.1]
    rw [Bool.and_eq_true] at hi
    exact Nat.blt_eq.mp hi.2
  obtain ⟨k, hk⟩ := List.getElem?_of_mem (gAsc_mem (ad := ad) (ls := ls) (q := (i, .int (gI x))) |>.mpr ⟨.inl x, hx, rfl⟩)
  refine lv_iinc hF.1 hF.2.1 hd h4.has hk (v := gI (x + n)) (gI_add x n).symm hlt rfl (fun as' h' => hK H locs as' ⟨h1, h2, h3, h4.store (v := .inl (x + n)) hi h', h5⟩)
theorem gs_goto {p : Program} {l : Launch} {e : Env} {R : Room} {s : State} {m : MethodId} {args : Array Value} {below : List Frame} {meth : Method} {c : Code} {Q : State → Prop} {cA : Nat → ClassId} {D : va_G} {ad adV : Nat → Nat} {A : Nat → Prop} {M0 : gM} {nL d ce so : Nat} {cc : ByteArray} {own : String} {pc t : Nat} {ls : gL} {st : List gV} {M : gM} {off : Int} (ht : (pc : Int) + off = (t : Int)) (hF : gFx p R s m args c cA D ad adV A M0 nL d ce so cc own) (hd : decode cc pc = .ok (.goto off, 3)) (hK : gG p l e R s m args below meth c Q cA D ad A M0 nL ce so t ls st M) : gG p l e R s m args below meth c Q cA D ad A M0 nL ce so pc ls st M := by
  intro H locs as hS
  exact lv_goto hF.1 hF.2.1 hd ht (hK H locs as hS)
theorem gs_if_eq {p : Program} {l : Launch} {e : Env} {R : Room} {s : State} {m : MethodId} {args : Array Value} {below : List Frame} {meth : Method} {c : Code} {Q : State → Prop} {cA : Nat → ClassId} {D : va_G} {ad adV : Nat → Nat} {A : Nat → Prop} {M0 : gM} {nL d ce so : Nat} {cc : ByteArray} {own : String} {pc t : Nat} {ls : gL} {st : List gV} {M : gM} {x off : Int} (ht : (pc : Int) + off = (t : Int)) (hF : gFx p R s m args c cA D ad adV A M0 nL d ce so cc own) (hd : decode cc pc = .ok (.ifCond .eq off, 3)) (hT : gEq x 0 = true → gG p l e R s m args below meth c Q cA D ad A M0 nL ce so t ls st M) (hE : gEq x 0 = false → gG p l e R s m args below meth c Q cA D ad A M0 nL ce so (pc + 3) ls st M) : gG p l e R s m args below meth c Q cA D ad A M0 nL ce so pc ls (.inl x :: st) M := by
  intro H locs as hS
  exact lv_if_eq hF.1 hF.2.1 hd ht (fun q => hT (gEq_iff.mpr q) H locs as hS) (fun q => hE (gEq_iff'.mpr q) H locs as hS)
theorem gs_icmp_eq {p : Program} {l : Launch} {e : Env} {R : Room} {s : State} {m : MethodId} {args : Array Value} {below : List Frame} {meth : Method} {c : Code} {Q : State → Prop} {cA : Nat → ClassId} {D : va_G} {ad adV : Nat → Nat} {A : Nat → Prop} {M0 : gM} {nL d ce so : Nat} {cc : ByteArray} {own : String} {pc t : Nat} {ls : gL} {st : List gV} {M : gM} {x y off : Int} (ht : (pc : Int) + off = (t : Int)) (hF : gFx p R s m args c cA D ad adV A M0 nL d ce so cc own) (hd : decode cc pc = .ok (.if_icmp .eq off, 3)) (hT : gEq x y = true → gG p l e R s m args below meth c Q cA D ad A M0 nL ce so t ls st M) (hE : gEq x y = false → gG p l e R s m args below meth c Q cA D ad A M0 nL ce so (pc + 3) ls st M) : gG p l e R s m args below meth c Q cA D ad A M0 nL ce so pc ls (.inl y :: .inl x :: st) M := by
  intro H locs as hS
  exact lv_icmp_eq hF.1 hF.2.1 hd ht (fun q => hT (gEq_iff.mpr q) H locs as hS) (fun q => hE (gEq_iff'.mpr q) H locs as hS)
theorem gs_if_ne {p : Program} {l : Launch} {e : Env} {R : Room} {s : State} {m : MethodId} {args : Array Value} {below : List Frame} {meth : Method} {c : Code} {Q : State → Prop} {cA : Nat → ClassId} {D : va_G} {ad adV : Nat → Nat} {A : Nat → Prop} {M0 : gM} {nL d ce so : Nat} {cc : ByteArray} {own : String} {pc t : Nat} {ls : gL} {st : List gV} {M : gM} {x off : Int} (ht : (pc : Int) + off = (t : Int)) (hF : gFx p R s m args c cA D ad adV A M0 nL d ce so cc own) (hd : decode cc pc = .ok (.ifCond .ne off, 3)) (hT : gEq x 0 = false → gG p l e R s m args below meth c Q cA D ad A M0 nL ce so t ls st M) (hE : gEq x 0 = true → gG p l e R s m args below meth c Q cA D ad A M0 nL ce so (pc + 3) ls st M) : gG p l e R s m args below meth c Q cA D ad A M0 nL ce so pc ls (.inl x :: st) M := by
  intro H locs as hS
  exact lv_if_ne hF.1 hF.2.1 hd ht (fun q => hT (gEq_iff'.mpr q) H locs as hS) (fun q => hE (gEq_iff.mpr q) H locs as hS)
theorem gs_icmp_ne {p : Program} {l : Launch} {e : Env} {R : Room} {s : State} {m : MethodId} {args : Array Value} {below : List Frame} {meth : Method} {c : Code} {Q : State → Prop} {cA : Nat → ClassId} {D : va_G} {ad adV : Nat → Nat} {A : Nat → Prop} {M0 : gM} {nL d ce so : Nat} {cc : ByteArray} {own : String} {pc t : Nat} {ls : gL} {st : List gV} {M : gM} {x y off : Int} (ht : (pc : Int) + off = (t : Int)) (hF : gFx p R s m args c cA D ad adV A M0 nL d ce so cc own) (hd : decode cc pc = .ok (.if_icmp .ne off, 3)) (hT : gEq x y = false → gG p l e R s m args below meth c Q cA D ad A M0 nL ce so t ls st M) (hE : gEq x y = true → gG p l e R s m args below meth c Q cA D ad A M0 nL ce so (pc + 3) ls st M) : gG p l e R s m args below meth c Q cA D ad A M0 nL ce so pc ls (.inl y :: .inl x :: st) M := by
  intro H locs as hS
  exact lv_icmp_ne hF.1 hF.2.1 hd ht (fun q => hT (gEq_iff'.mpr q) H locs as hS) (fun q => hE (gEq_iff.mpr q) H locs as hS)
theorem gs_if_lt {p : Program} {l : Launch} {e : Env} {R : Room} {s : State} {m : MethodId} {args : Array Value} {below : List Frame} {meth : Method} {c : Code} {Q : State → Prop} {cA : Nat → ClassId} {D : va_G} {ad adV : Nat → Nat} {A : Nat → Prop} {M0 : gM} {nL d ce so : Nat} {cc : ByteArray} {own : String} {pc t : Nat} {ls : gL} {st : List gV} {M : gM} {x off : Int} (ht : (pc : Int) + off = (t : Int)) (hF : gFx p R s m args c cA D ad adV A M0 nL d ce so cc own) (hd : decode cc pc = .ok (.ifCond .lt off, 3)) (hT : gLt x 0 = true → gG p l e R s m args below meth c Q cA D ad A M0 nL ce so t ls st M) (hE : gLt x 0 = false → gG p l e R s m args below meth c Q cA D ad A M0 nL ce so (pc + 3) ls st M) : gG p l e R s m args below meth c Q cA D ad A M0 nL ce so pc ls (.inl x :: st) M := by
  intro H locs as hS
  exact lv_if_lt hF.1 hF.2.1 hd ht (fun q => hT (gLt_iff.mpr q) H locs as hS) (fun q => hE (gLt_iff'.mpr q) H locs as hS)
theorem gs_icmp_lt {p : Program} {l : Launch} {e : Env} {R : Room} {s : State} {m : MethodId} {args : Array Value} {below : List Frame} {meth : Method} {c : Code} {Q : State → Prop} {cA : Nat → ClassId} {D : va_G} {ad adV : Nat → Nat} {A : Nat → Prop} {M0 : gM} {nL d ce so : Nat} {cc : ByteArray} {own : String} {pc t : Nat} {ls : gL} {st : List gV} {M : gM} {x y off : Int} (ht : (pc : Int) + off = (t : Int)) (hF : gFx p R s m args c cA D ad adV A M0 nL d ce so cc own) (hd : decode cc pc = .ok (.if_icmp .lt off, 3)) (hT : gLt x y = true → gG p l e R s m args below meth c Q cA D ad A M0 nL ce so t ls st M) (hE : gLt x y = false → gG p l e R s m args below meth c Q cA D ad A M0 nL ce so (pc + 3) ls st M) : gG p l e R s m args below meth c Q cA D ad A M0 nL ce so pc ls (.inl y :: .inl x :: st) M := by
  intro H locs as hS
  exact lv_icmp_lt hF.1 hF.2.1 hd ht (fun q => hT (gLt_iff.mpr q) H locs as hS) (fun q => hE (gLt_iff'.mpr q) H locs as hS)
theorem gs_if_ge {p : Program} {l : Launch} {e : Env} {R : Room} {s : State} {m : MethodId} {args : Array Value} {below : List Frame} {meth : Method} {c : Code} {Q : State → Prop} {cA : Nat → ClassId} {D : va_G} {ad adV : Nat → Nat} {A : Nat → Prop} {M0 : gM} {nL d ce so : Nat} {cc : ByteArray} {own : String} {pc t : Nat} {ls : gL} {st : List gV} {M : gM} {x off : Int} (ht : (pc : Int) + off = (t : Int)) (hF : gFx p R s m args c cA D ad adV A M0 nL d ce so cc own) (hd : decode cc pc = .ok (.ifCond .ge off, 3)) (hT : gLt x 0 = false → gG p l e R s m args below meth c Q cA D ad A M0 nL ce so t ls st M) (hE : gLt x 0 = true → gG p l e R s m args below meth c Q cA D ad A M0 nL ce so (pc + 3) ls st M) : gG p l e R s m args below meth c Q cA D ad A M0 nL ce so pc ls (.inl x :: st) M := by
  intro H locs as hS
  exact lv_if_ge hF.1 hF.2.1 hd ht (fun q => hT (gLt_iff'.mpr (Int32.not_lt.mpr q)) H locs as hS) (fun q => hE (gLt_iff.mpr (Int32.not_le.mp q)) H locs as hS)
theorem gs_icmp_ge {p : Program} {l : Launch} {e : Env} {R : Room} {s : State} {m : MethodId} {args : Array Value} {below : List Frame} {meth : Method} {c : Code} {Q : State → Prop} {cA : Nat → ClassId} {D : va_G} {ad adV : Nat → Nat} {A : Nat → Prop} {M0 : gM} {nL d ce so : Nat} {cc : ByteArray} {own : String} {pc t : Nat} {ls : gL} {st : List gV} {M : gM} {x y off : Int} (ht : (pc : Int) + off = (t : Int)) (hF : gFx p R s m args c cA D ad adV A M0 nL d ce so cc own) (hd : decode cc pc = .ok (.if_icmp .ge off, 3)) (hT : gLt x y = false → gG p l e R s m args below meth c Q cA D ad A M0 nL ce so t ls st M) (hE : gLt x y = true → gG p l e R s m args below meth c Q cA D ad A M0 nL ce so (pc + 3) ls st M) : gG p l e R s m args below meth c Q cA D ad A M0 nL ce so pc ls (.inl y :: .inl x :: st) M := by
  intro H locs as hS
  exact lv_icmp_ge hF.1 hF.2.1 hd ht (fun q => hT (gLt_iff'.mpr (Int32.not_lt.mpr q)) H locs as hS) (fun q => hE (gLt_iff.mpr (Int32.not_le.mp q)) H locs as hS)
theorem gs_if_gt {p : Program} {l : Launch} {e : Env} {R : Room} {s : State} {m : MethodId} {args : Array Value} {below : List Frame} {meth : Method} {c : Code} {Q : State → Prop} {cA : Nat → ClassId} {D : va_G} {ad adV : Nat → Nat} {A : Nat → Prop} {M0 : gM} {nL d ce so : Nat} {cc : ByteArray} {own : String} {pc t : Nat} {ls : gL} {st : List gV} {M : gM} {x off : Int} (ht : (pc : Int) + off = (t : Int)) (hF : gFx p R s m args c cA D ad adV A M0 nL d ce so cc own) (hd : decode cc pc = .ok (.ifCond .gt off, 3)) (hT : gLt 0 x = true → gG p l e R s m args below meth c Q cA D ad A M0 nL ce so t ls st M) (hE : gLt 0 x = false → gG p l e R s m args below meth c Q cA D ad A M0 nL ce so (pc + 3) ls st M) : gG p l e R s m args below meth c Q cA D ad A M0 nL ce so pc ls (.inl x :: st) M := by
  intro H locs as hS
  exact lv_if_gt hF.1 hF.2.1 hd ht (fun q => hT (gLt_iff.mpr q) H locs as hS) (fun q => hE (gLt_iff'.mpr q) H locs as hS)
theorem gs_icmp_gt {p : Program} {l : Launch} {e : Env} {R : Room} {s : State} {m : MethodId} {args : Array Value} {below : List Frame} {meth : Method} {c : Code} {Q : State → Prop} {cA : Nat → ClassId} {D : va_G} {ad adV : Nat → Nat} {A : Nat → Prop} {M0 : gM} {nL d ce so : Nat} {cc : ByteArray} {own : String} {pc t : Nat} {ls : gL} {st : List gV} {M : gM} {x y off : Int} (ht : (pc : Int) + off = (t : Int)) (hF : gFx p R s m args c cA D ad adV A M0 nL d ce so cc own) (hd : decode cc pc = .ok (.if_icmp .gt off, 3)) (hT : gLt y x = true → gG p l e R s m args below meth c Q cA D ad A M0 nL ce so t ls st M) (hE : gLt y x = false → gG p l e R s m args below meth c Q cA D ad A M0 nL ce so (pc + 3) ls st M) : gG p l e R s m args below meth c Q cA D ad A M0 nL ce so pc ls (.inl y :: .inl x :: st) M := by
  intro H locs as hS
  exact lv_icmp_gt hF.1 hF.2.1 hd ht (fun q => hT (gLt_iff.mpr q) H locs as hS) (fun q => hE (gLt_iff'.mpr q) H locs as hS)
theorem gs_if_le {p : Program} {l : Launch} {e : Env} {R : Room} {s : State} {m : MethodId} {args : Array Value} {below : List Frame} {meth : Method} {c : Code} {Q : State → Prop} {cA : Nat → ClassId} {D : va_G} {ad adV : Nat → Nat} {A : Nat → Prop} {M0 : gM} {nL d ce so : Nat} {cc : ByteArray} {own : String} {pc t : Nat} {ls : gL} {st : List gV} {M : gM} {x off : Int} (ht : (pc : Int) + off = (t : Int)) (hF : gFx p R s m args c cA D ad adV A M0 nL d ce so cc own) (hd : decode cc pc = .ok (.ifCond .le off, 3)) (hT : gLt 0 x = false → gG p l e R s m args below meth c Q cA D ad A M0 nL ce so t ls st M) (hE : gLt 0 x = true → gG p l e R s m args below meth c Q cA D ad A M0 nL ce so (pc + 3) ls st M) : gG p l e R s m args below meth c Q cA D ad A M0 nL ce so pc ls (.inl x :: st) M := by
  intro H locs as hS
  exact lv_if_le hF.1 hF.2.1 hd ht (fun q => hT (gLt_iff'.mpr (Int32.not_lt.mpr q)) H locs as hS) (fun q => hE (gLt_iff.mpr (Int32.not_le.mp q)) H locs as hS)
theorem gs_icmp_le {p : Program} {l : Launch} {e : Env} {R : Room} {s : State} {m : MethodId} {args : Array Value} {below : List Frame} {meth : Method} {c : Code} {Q : State → Prop} {cA : Nat → ClassId} {D : va_G} {ad adV : Nat → Nat} {A : Nat → Prop} {M0 : gM} {nL d ce so : Nat} {cc : ByteArray} {own : String} {pc t : Nat} {ls : gL} {st : List gV} {M : gM} {x y off : Int} (ht : (pc : Int) + off = (t : Int)) (hF : gFx p R s m args c cA D ad adV A M0 nL d ce so cc own) (hd : decode cc pc = .ok (.if_icmp .le off, 3)) (hT : gLt y x = false → gG p l e R s m args below meth c Q cA D ad A M0 nL ce so t ls st M) (hE : gLt y x = true → gG p l e R s m args below meth c Q cA D ad A M0 nL ce so (pc + 3) ls st M) : gG p l e R s m args below meth c Q cA D ad A M0 nL ce so pc ls (.inl y :: .inl x :: st) M := by
  intro H locs as hS
  exact lv_icmp_le hF.1 hF.2.1 hd ht (fun q => hT (gLt_iff'.mpr (Int32.not_lt.mpr q)) H locs as hS) (fun q => hE (gLt_iff.mpr (Int32.not_le.mp q)) H locs as hS)
