-- 05: the instructions that read and write the store
theorem gCls_nm : ∀ (c : Nat) (q : vw_C), vwCl[c]? = some q → ∀ a, a < q.2.2 → ∀ b, b < q.2.2 → a ≠ b → (q.2.1 a).2.1 ≠ (q.2.1 b).2.1 := by
  intro c q h
  match c, h with
  | 0, h => cases h; exact nmX0
  | 1, h => cases h; exact nmX1
  | 2, h => cases h; exact nmX2
  | 3, h => cases h; exact nmX3
  | 4, h => cases h; exact nmX4
  | 5, h => cases h; exact nmX5
  | 6, h => cases h; exact nmX6
  | 7, h => cases h; exact nmX7
  | 8, h => cases h; exact nmX8
  | 9, h => cases h; exact nmX9
  | 10, h => cases h; exact nmX10
  | c + 11, h => exact absurd h (by simp [vwCl])
theorem gCls_ty : ∀ (c : Nat) (q : vw_C), vwCl[c]? = some q → ∃ ty : Nat → FieldType, ∀ k, k < q.2.2 → parseFieldDescriptor (q.2.1 k).2.2.1 = some (ty k) := by
  intro c q h
  match c, h with
  | 0, h => cases h; exact ⟨_, tyX0_ok⟩
  | 1, h => cases h; exact ⟨_, tyX1_ok⟩
  | 2, h => cases h; exact ⟨_, tyX2_ok⟩
  | 3, h => cases h; exact ⟨_, tyX3_ok⟩
  | 4, h => cases h; exact ⟨_, tyX4_ok⟩
  | 5, h => cases h; exact ⟨_, tyX5_ok⟩
  | 6, h => cases h; exact ⟨_, tyX6_ok⟩
  | 7, h => cases h; exact ⟨_, tyX7_ok⟩
  | 8, h => cases h; exact ⟨_, tyX8_ok⟩
  | 9, h => cases h; exact ⟨_, tyX9_ok⟩
  | 10, h => cases h; exact ⟨_, tyX10_ok⟩
  | c + 11, h => exact absurd h (by simp [vwCl])
theorem gCls_inB : (vwCl.all fun q => (u_ws q.1 q.2.1 q.2.2).all fun w => decide (w ∈ lw_tbl) && goodWord w) = true := by decide +kernel
theorem gCls_in : ∀ (c : Nat) (q : vw_C), vwCl[c]? = some q → ∀ w ∈ u_ws q.1 q.2.1 q.2.2, w ∈ gUW := by
  intro c q h w hw
  have h1 := List.all_eq_true.mp gCls_inB q (List.mem_of_getElem? h)
  have h2 := List.all_eq_true.mp h1 w hw
  rw [Bool.and_eq_true, decide_eq_true_iff] at h2
  exact List.mem_filter.mpr h2
/-- the word of a field's link, where it fits -/
def gFw (own : String) (idx ci sl : Nat) : Option Cond := match vwCl[ci]? with
  | some q => if sl < q.2.2 ∧ (q.2.1 sl).1 = q.1 then some (.fieldLink own idx q.1 (q.2.1 sl).2.1 (q.2.1 sl).2.2.1) else none
  | none => none
/-- which slots of a class hold numbers, as the store's shape has them, and where -/
def gObj (p ci : Nat) : Prop := ∃ (n : Nat) (rs : List Nat), gLay p = (ci + 4, n, rs)
theorem gcE_obj {cA : Nat → ClassId} {ad : Nat → Nat} {M : gM} {p ci n : Nat} {rs : List Nat} (h : gLay p = (ci + 4, n, rs)) : gcE cA ad M p = .inr (ci, (List.range rs.length).map (fun i => gFv ad (rs.getD i 0) (M p i))) := by
  unfold gcE
  rw [h]
theorem gcE_int {cA : Nat → ClassId} {ad : Nat → Nat} {M : gM} {p n : Nat} {rs : List Nat} (h : gLay p = (0, n, rs)) : gcE cA ad M p = .inl (cA 0, n, .inl (fun i => gI (M p i))) := by
  unfold gcE
  rw [h]
theorem gcE_bool {cA : Nat → ClassId} {ad : Nat → Nat} {M : gM} {p n : Nat} {rs : List Nat} (h : gLay p = (1, n, rs)) : gcE cA ad M p = .inl (cA 1, n, .inl (fun i => gI (M p i))) := by
  unfold gcE
  rw [h]
/-- the tags of objects are below 15: 50 and more are no objects -/
theorem gLay_tag {p ci n : Nat} {rs : List Nat} {q : vw_C} (h : gLay p = (ci + 4, n, rs)) (hc : vwCl[ci]? = some q) : p < gN := by
  have h1 : ci < 11 := by
    have := (List.getElem?_eq_some_iff.mp hc).1
    simpa [vwCl] using this
  exact gLay_lt h (by omega)
theorem gFw_some {own : String} {idx ci sl : Nat} {w : Cond} (h : gFw own idx ci sl = some w) : ∃ q : vw_C, vwCl[ci]? = some q ∧ sl < q.2.2 ∧ (q.2.1 sl).1 = q.1 ∧ w = .fieldLink own idx q.1 (q.2.1 sl).2.1 (q.2.1 sl).2.2.1 := by
  unfold gFw at h
  split at h
  · rename_i q hq
    split at h
    · rename_i hc
      cases h
      exact ⟨q, hq, hc.1, hc.2, rfl⟩
    · cases h
  · cases h
theorem gs_getfield {p : Program} {l : Launch} {e : Env} {R : Room} {s : State} {m : MethodId} {args : Array Value} {below : List Frame} {meth : Method} {c : Code} {Q : State → Prop} {cA : Nat → ClassId} {D : va_G} {ad adV : Nat → Nat} {A : Nat → Prop} {M0 : gM} {nL d ce so : Nat} {cc : ByteArray} {own : String} {pc : Nat} {ls : gL} {st : List gV} {M : gM} {idx ci sl pl n : Nat} {rs : List Nat} {w : Cond} {v : gV} (hw : gFw own idx ci sl = some w) (hwu : w ∈ gUW) (hl : gLay pl = (ci + 4, n, rs)) (hv : (rs[sl]? = some 0 ∧ v = .inl (M pl sl)) ∨ ∃ r, rs[sl]? = some (r + 1) ∧ v = .inr (.inr (r + 1)))
    (hF : gFx p R s m args c cA D ad adV A M0 nL d ce so cc own) (hd : decode cc pc = .ok (.getfield idx, 3)) (hK : gG p l e R s m args below meth c Q cA D ad A M0 nL ce so (pc + 3) ls (v :: st) M) : gG p l e R s m args below meth c Q cA D ad A M0 nL ce so pc ls (.inr (.inr (pl + 1)) :: st) M := by
  intro H locs as hS
  have h := hK H locs as hS
  obtain ⟨q, hq, h1, h2, rfl⟩ := gFw_some hw
  obtain ⟨hx, hb, -, hown, hts, hK0, -⟩ := hF
  have hp := gLay_tag hl hq
  have hat := gcW_at cA ad M hp
  rw [gcE_obj hl] at hat
  refine va_get (D := D) hx hb hts (gCls_in _ _ hq) hown hK0 hS.1 pl hat hq sl h1 (hts _ hwu) (fun x hx => by rw [← h2]; exact hx) ?_ hd h
  rcases hv with ⟨hr, rfl⟩ | ⟨r, hr, rfl⟩
  · have hlt := (List.getElem?_eq_some_iff.mp hr).1
    rw [List.getElem?_map, List.getElem?_range hlt]
    show some (gFv ad (rs.getD sl 0) (M pl sl)) = some _
    rw [show rs.getD sl 0 = 0 by rw [List.getD_eq_getElem?_getD, hr]; rfl]
    rfl
  · have hlt := (List.getElem?_eq_some_iff.mp hr).1
    rw [List.getElem?_map, List.getElem?_range hlt]
    show some (gFv ad (rs.getD sl 0) (M pl sl)) = some _
    rw [show rs.getD sl 0 = r + 1 by rw [List.getD_eq_getElem?_getD, hr]; rfl]
    rfl
theorem gB01_cases {v : Int} (h : gB01 v = true) : gI v = 0 ∨ gI v = 1 := by
  unfold gB01 at h
  rw [Bool.or_eq_true] at h
  rcases h with h | h
  · exact Or.inl (gEq_iff.mp h)
  · exact Or.inr (gEq_iff.mp h)
theorem gs_putfield {p : Program} {l : Launch} {e : Env} {R : Room} {s : State} {m : MethodId} {args : Array Value} {below : List Frame} {meth : Method} {c : Code} {Q : State → Prop} {cA : Nat → ClassId} {D : va_G} {ad adV : Nat → Nat} {A : Nat → Prop} {M0 : gM} {nL d ce so : Nat} {cc : ByteArray} {own : String} {pc : Nat} {ls : gL} {st : List gV} {M : gM} {idx ci sl pl n : Nat} {rs : List Nat} {w : Cond} {v : Int} {q : vw_C} (hw : gFw own idx ci sl = some w) (hwu : w ∈ gUW) (hl : gLay pl = (ci + 4, n, rs)) (hr : rs[sl]? = some 0) (hq : vwCl[ci]? = some q) (hfin : (q.2.1 sl).2.2.2 = false) (hty : (q.2.1 sl).2.2.1 = "I" ∨ ((q.2.1 sl).2.2.1 = "Z" ∧ gB01 v = true)) (hp2 : pl ≠ 1000 ∧ pl ≠ 1001)
    (hF : gFx p R s m args c cA D ad adV A M0 nL d ce so cc own) (hd : decode cc pc = .ok (.putfield idx, 3)) (hK : gG p l e R s m args below meth c Q cA D ad A M0 nL ce so (pc + 3) ls st (gU M pl sl v)) : gG p l e R s m args below meth c Q cA D ad A M0 nL ce so pc ls (.inl v :: .inr (.inr (pl + 1)) :: st) M := by
  intro H locs as hS
  obtain ⟨q', hq', h1, h2, rfl⟩ := gFw_some hw
  cases hq.symm.trans hq'
  obtain ⟨hx, hb, -, hown, hts, hK0, -⟩ := hF
  have hp := gLay_tag hl hq
  have hat := gcW_at cA ad M hp
  rw [gcE_obj hl] at hat
  obtain ⟨ty0, hty0⟩ := gCls_ty _ _ hq
  have hlt := (List.getElem?_eq_some_iff.mp hr).1
  obtain ⟨hP, hD, hS0, hL, hm1, hm2⟩ := hS
  have key : ∀ ty : FieldType, parseFieldDescriptor (q.2.1 sl).2.2.1 = some ty → narrow ty (.int (gI v)) = .int (gI v) → fits ty (.int (gI v)) = true → W p l e R s m args below meth c H locs ce so Q (F0 m pc as ((.inl v :: .inr (.inr (pl + 1)) :: st).map (gcV ad))) := by
    intro ty h3 h4 h5
    have hset : (gcW cA ad M).set pl (ad pl, .inr (ci, ((List.range rs.length).map (fun i => gFv ad (rs.getD i 0) (M pl i))).set sl (gcV ad (.inl v)))) = gcW cA ad (gU M pl sl v) := by
      refine gcW_set hp ?_ (fun q hq => gU_ne hq)
      rw [gcE_obj hl]
      refine congrArg (fun z => Sum.inr (ci, z)) ?_
      apply List.ext_getElem?
      intro i
      by_cases hi : i < rs.length
      · by_cases his : i = sl
        · subst his
          rw [List.getElem?_set_self (by simpa using hi), List.getElem?_map, List.getElem?_range hi]
          show some (gcV ad (.inl v)) = some (gFv ad (rs.getD i 0) (gU M pl i v pl i))
          rw [show rs.getD i 0 = 0 by rw [List.getD_eq_getElem?_getD, hr]; rfl]
          simp [gU, gcV, gFv]
        · rw [List.getElem?_set_ne (Ne.symm his), List.getElem?_map, List.getElem?_map, List.getElem?_range hi]
          show some (gFv ad (rs.getD i 0) (M pl i)) = some (gFv ad (rs.getD i 0) (gU M pl sl v pl i))
          rw [show gU M pl sl v pl i = M pl i by simp [gU, his]]
      · rw [List.getElem?_eq_none (by simp; omega), List.getElem?_eq_none (by simp; omega)]
    refine va_put (D := D) hx hb hts (gCls_in _ _ hq) ty0 hty0 (gCls_nm _ _ hq) hown hK0 hP hD hS0 pl hat hq sl h1 (hts _ hwu) (fun x hx => by rw [← h2]; exact hx) hfin h3 h4 h5 (by simpa using hlt) hd (fun H1 locs1 hP1 hD1 hS1 => ?_)
    rw [hset] at hP1 hD1
    exact hK H1 locs1 as ⟨hP1, hD1, hS1, hL, by rw [gU_ne (Ne.symm hp2.1)]; exact hm1, by rw [gU_ne (Ne.symm hp2.2)]; exact hm2⟩
  rcases hty with hI | ⟨hZ, hB⟩
  · exact key .int (by rw [hI]; decide +kernel) rfl rfl
  · rcases gB01_cases hB with h0 | h0
    · exact key .boolean (by rw [hZ]; decide +kernel) (by rw [h0]; rfl) (by rw [h0]; rfl)
    · exact key .boolean (by rw [hZ]; decide +kernel) (by rw [h0]; rfl) (by rw [h0]; rfl)
theorem gs_iaload {p : Program} {l : Launch} {e : Env} {R : Room} {s : State} {m : MethodId} {args : Array Value} {below : List Frame} {meth : Method} {c : Code} {Q : State → Prop} {cA : Nat → ClassId} {D : va_G} {ad adV : Nat → Nat} {A : Nat → Prop} {M0 : gM} {nL d ce so : Nat} {cc : ByteArray} {own : String} {pc : Nat} {ls : gL} {st : List gV} {M : gM} {pl n : Nat} {rs : List Nat} {i : Int} (hl : gLay pl = (0, n, rs)) (hi : gInb i n = true)
    (hF : gFx p R s m args c cA D ad adV A M0 nL d ce so cc own) (hd : decode cc pc = .ok (.iaload, 1)) (hK : gG p l e R s m args below meth c Q cA D ad A M0 nL ce so (pc + 1) ls (.inl (M pl (gIx i)) :: st) M) : gG p l e R s m args below meth c Q cA D ad A M0 nL ce so pc ls (.inl i :: .inr (.inr (pl + 1)) :: st) M := by
  intro H locs as hS
  have h := hK H locs as hS
  have hat := gcW_at cA ad M (gLay_lt hl (by omega))
  rw [gcE_int hl] at hat
  exact va_iald hF.1 hF.2.1 hF.2.2.2.2.2.1 hS.1 pl 0 hat rfl (gInb_in hi) hd h
theorem gs_baload {p : Program} {l : Launch} {e : Env} {R : Room} {s : State} {m : MethodId} {args : Array Value} {below : List Frame} {meth : Method} {c : Code} {Q : State → Prop} {cA : Nat → ClassId} {D : va_G} {ad adV : Nat → Nat} {A : Nat → Prop} {M0 : gM} {nL d ce so : Nat} {cc : ByteArray} {own : String} {pc : Nat} {ls : gL} {st : List gV} {M : gM} {pl n : Nat} {rs : List Nat} {i : Int} (hl : gLay pl = (1, n, rs)) (hi : gInb i n = true)
    (hF : gFx p R s m args c cA D ad adV A M0 nL d ce so cc own) (hd : decode cc pc = .ok (.baload, 1)) (hK : gG p l e R s m args below meth c Q cA D ad A M0 nL ce so (pc + 1) ls (.inl (M pl (gIx i)) :: st) M) : gG p l e R s m args below meth c Q cA D ad A M0 nL ce so pc ls (.inl i :: .inr (.inr (pl + 1)) :: st) M := by
  intro H locs as hS
  have h := hK H locs as hS
  have hat := gcW_at cA ad M (gLay_lt hl (by omega))
  rw [gcE_bool hl] at hat
  exact va_zald hF.1 hF.2.1 hF.2.2.2.2.2.1 hS.1 pl 1 hat rfl (gInb_in hi) hd h
theorem gU_row (M : gM) (p : Nat) (i v : Int) : upd (fun k => gI (M p k)) (gI i).toNatClampNeg (gI v) = fun k => gI (gU M p (gIx i) v p k) := by
  funext k
  by_cases hk : k = gIx i
  · subst hk
    have e : (gI i).toNatClampNeg = gIx i := rfl
    simp [upd, gU, e]
  · simp only [upd, gU]
    rw [if_neg (show ¬ k = (gI i).toNatClampNeg from hk), if_neg (fun z => hk z.2)]
theorem gs_iastore {p : Program} {l : Launch} {e : Env} {R : Room} {s : State} {m : MethodId} {args : Array Value} {below : List Frame} {meth : Method} {c : Code} {Q : State → Prop} {cA : Nat → ClassId} {D : va_G} {ad adV : Nat → Nat} {A : Nat → Prop} {M0 : gM} {nL d ce so : Nat} {cc : ByteArray} {own : String} {pc : Nat} {ls : gL} {st : List gV} {M : gM} {pl n : Nat} {rs : List Nat} {i v : Int} (hl : gLay pl = (0, n, rs)) (hi : gInb i n = true)
    (hF : gFx p R s m args c cA D ad adV A M0 nL d ce so cc own) (hd : decode cc pc = .ok (.iastore, 1)) (hK : gG p l e R s m args below meth c Q cA D ad A M0 nL ce so (pc + 1) ls st (gU M pl (gIx i) v)) : gG p l e R s m args below meth c Q cA D ad A M0 nL ce so pc ls (.inl v :: .inl i :: .inr (.inr (pl + 1)) :: st) M := by
  intro H locs as hS
  obtain ⟨hP, hD, hS0, hL, hm1, hm2⟩ := hS
  have hp := gLay_lt hl (by omega)
  have hp3 : pl < 107 := hp
  have hat := gcW_at cA ad M hp
  rw [gcE_int hl] at hat
  refine va_iast hF.1 hF.2.1 hF.2.2.2.2.2.1 hP hD hS0 pl 0 hat rfl (gInb_in hi) hd (fun H1 locs1 hP1 hD1 hS1 => ?_)
  have hset := gcW_set (cA := cA) (ad := ad) (M := M) (M' := gU M pl (gIx i) v) (x := .inl (cA 0, n, .inl (upd (fun k => gI (M pl k)) (gI i).toNatClampNeg (gI v)))) hp (by rw [gcE_int hl, gU_row]) (fun q hq => gU_ne hq)
  rw [hset] at hP1 hD1
  exact hK H1 locs1 as ⟨hP1, hD1, hS1, hL, by rw [gU_ne (by omega)]; exact hm1, by rw [gU_ne (by omega)]; exact hm2⟩
theorem gs_bastore {p : Program} {l : Launch} {e : Env} {R : Room} {s : State} {m : MethodId} {args : Array Value} {below : List Frame} {meth : Method} {c : Code} {Q : State → Prop} {cA : Nat → ClassId} {D : va_G} {ad adV : Nat → Nat} {A : Nat → Prop} {M0 : gM} {nL d ce so : Nat} {cc : ByteArray} {own : String} {pc : Nat} {ls : gL} {st : List gV} {M : gM} {pl n : Nat} {rs : List Nat} {i v : Int} (hl : gLay pl = (1, n, rs)) (hi : gInb i n = true) (hv : gB01 v = true)
    (hF : gFx p R s m args c cA D ad adV A M0 nL d ce so cc own) (hd : decode cc pc = .ok (.bastore, 1)) (hK : gG p l e R s m args below meth c Q cA D ad A M0 nL ce so (pc + 1) ls st (gU M pl (gIx i) v)) : gG p l e R s m args below meth c Q cA D ad A M0 nL ce so pc ls (.inl v :: .inl i :: .inr (.inr (pl + 1)) :: st) M := by
  intro H locs as hS
  obtain ⟨hP, hD, hS0, hL, hm1, hm2⟩ := hS
  have hp := gLay_lt hl (by omega)
  have hp3 : pl < 107 := hp
  have hat := gcW_at cA ad M hp
  rw [gcE_bool hl] at hat
  have hn : vp_nar .boolean (gI v) = gI v := by
    rcases gB01_cases hv with h0 | h0 <;> rw [h0] <;> rfl
  refine va_zast hF.1 hF.2.1 hF.2.2.2.2.2.1 hP hD hS0 pl 1 hat rfl (gInb_in hi) hd (fun H1 locs1 hP1 hD1 hS1 => ?_)
  rw [hn] at hP1 hD1
  have hset := gcW_set (cA := cA) (ad := ad) (M := M) (M' := gU M pl (gIx i) v) (x := .inl (cA 1, n, .inl (upd (fun k => gI (M pl k)) (gI i).toNatClampNeg (gI v)))) hp (by rw [gcE_bool hl, gU_row]) (fun q hq => gU_ne hq)
  rw [hset] at hP1 hD1
  exact hK H1 locs1 as ⟨hP1, hD1, hS1, hL, by rw [gU_ne (by omega)]; exact hm1, by rw [gU_ne (by omega)]; exact hm2⟩
theorem gs_aaload {p : Program} {l : Launch} {e : Env} {R : Room} {s : State} {m : MethodId} {args : Array Value} {below : List Frame} {meth : Method} {c : Code} {Q : State → Prop} {cA : Nat → ClassId} {D : va_G} {ad adV : Nat → Nat} {A : Nat → Prop} {M0 : gM} {nL d ce so : Nat} {cc : ByteArray} {own : String} {pc : Nat} {ls : gL} {st : List gV} {M : gM} {pl t n b k : Nat} {i : Int} (ht : t = 2 ∨ t = 3) (hl : gLay pl = (t, n, [b, k])) (hi : gInb i n = true)
    (hF : gFx p R s m args c cA D ad adV A M0 nL d ce so cc own) (hd : decode cc pc = .ok (.aaload, 1)) (hK : gG p l e R s m args below meth c Q cA D ad A M0 nL ce so (pc + 1) ls (.inr (.inr (b + k * gIx i + 1)) :: st) M) : gG p l e R s m args below meth c Q cA D ad A M0 nL ce so pc ls (.inl i :: .inr (.inr (pl + 1)) :: st) M := by
  intro H locs as hS
  have h := hK H locs as hS
  rcases ht with rfl | rfl
  · have hat := gcW_at cA ad M (gLay_lt hl (by omega))
    rw [show gcE cA ad M pl = .inl (cA 2, n, .inr (.inr (.inr (.inr (fun i => some (ad (b + k * i))))))) by unfold gcE; rw [hl]; rfl] at hat
    exact va_aldq hF.1 hF.2.1 hF.2.2.2.2.2.1 hS.1 pl 2 hat rfl (gInb_in hi) hd h
  · have hat := gcW_at cA ad M (gLay_lt hl (by omega))
    rw [show gcE cA ad M pl = .inl (cA 3, n, .inr (.inr (.inr (.inr (fun i => some (ad (b + k * i))))))) by unfold gcE; rw [hl]; rfl] at hat
    exact va_aldq hF.1 hF.2.1 hF.2.2.2.2.2.1 hS.1 pl 3 hat rfl (gInb_in hi) hd h
theorem gs_arraylen {p : Program} {l : Launch} {e : Env} {R : Room} {s : State} {m : MethodId} {args : Array Value} {below : List Frame} {meth : Method} {c : Code} {Q : State → Prop} {cA : Nat → ClassId} {D : va_G} {ad adV : Nat → Nat} {A : Nat → Prop} {M0 : gM} {nL d ce so : Nat} {cc : ByteArray} {own : String} {pc : Nat} {ls : gL} {st : List gV} {M : gM} {pl n : Nat} {rs : List Nat} (hl : gLay pl = (0, n, rs))
    (hF : gFx p R s m args c cA D ad adV A M0 nL d ce so cc own) (hd : decode cc pc = .ok (.arraylength, 1)) (hK : gG p l e R s m args below meth c Q cA D ad A M0 nL ce so (pc + 1) ls (.inl (n : Int) :: st) M) : gG p l e R s m args below meth c Q cA D ad A M0 nL ce so pc ls (.inr (.inr (pl + 1)) :: st) M := by
  intro H locs as hS
  have h := hK H locs as hS
  have hat := gcW_at cA ad M (gLay_lt hl (by omega))
  rw [gcE_int hl] at hat
  exact va_alen hF.1 hF.2.1 hF.2.2.2.2.2.1 hS.1 pl 0 hat rfl (Int32.ofInt_eq_ofNat).symm hd h

theorem gLay_51 {p n : Nat} {rs : List Nat} (h : gLay p = (51, n, rs)) : (p = 1002 ∧ n = 5) ∨ (p = 1003 ∧ n = 6) := by
  by_cases hp : p < gN
  · exfalso
    have hc : ∀ q, q < gN → (gLay q).1 < 50 := by decide +kernel
    have := hc p hp
    rw [h] at this
    exact absurd this (by simp)
  · have hb : Nat.blt p gN = false := by
      cases hc : Nat.blt p gN with
      | false => rfl
      | true => exact absurd (Nat.blt_eq ▸ hc) (by simpa using hp)
    unfold gLay at h
    rw [hb] at h
    simp only [cond_false] at h
    unfold gLy2 at h
    split at h
    · cases h
    · cases h; exact Or.inl ⟨rfl, rfl⟩
    · cases h; exact Or.inr ⟨rfl, rfl⟩
    · cases hc : (Nat.ble 1010 p && Nat.blt p 1017) <;> rw [hc] at h <;> simp only [cond_true, cond_false] at h <;> cases h
theorem gLay_50 {p n : Nat} {rs : List Nat} (h : gLay p = (50, n, rs)) : p = 1000 := by
  by_cases hp : p < gN
  · exfalso
    have hc : ∀ q, q < gN → (gLay q).1 < 50 := by decide +kernel
    have := hc p hp
    rw [h] at this
    exact absurd this (by simp)
  · have hb : Nat.blt p gN = false := by
      cases hc : Nat.blt p gN with
      | false => rfl
      | true => exact absurd (Nat.blt_eq ▸ hc) (by simpa using hp)
    unfold gLay at h
    rw [hb] at h
    simp only [cond_false] at h
    unfold gLy2 at h
    split at h
    · rfl
    · cases h
    · cases h
    · cases hc : (Nat.ble 1010 p && Nat.blt p 1017) <;> rw [hc] at h <;> simp only [cond_true, cond_false] at h <;> cases h
theorem gs_iaload51 {p : Program} {l : Launch} {e : Env} {R : Room} {s : State} {m : MethodId} {args : Array Value} {below : List Frame} {meth : Method} {c : Code} {Q : State → Prop} {cA : Nat → ClassId} {D : va_G} {ad adV : Nat → Nat} {A : Nat → Prop} {M0 : gM} {nL d ce so : Nat} {cc : ByteArray} {own : String} {pc : Nat} {ls : gL} {st : List gV} {M : gM} {pl n : Nat} {rs : List Nat} {i : Int} (hl : gLay pl = (51, n, rs)) (hi : gInb i n = true)
    (hF : gFx p R s m args c cA D ad adV A M0 nL d ce so cc own) (hd : decode cc pc = .ok (.iaload, 1)) (hK : gG p l e R s m args below meth c Q cA D ad A M0 nL ce so (pc + 1) ls (.inl (((rs.getD (gIx i) 0 : Nat) : Int) - 1) :: st) M) : gG p l e R s m args below meth c Q cA D ad A M0 nL ce so pc ls (.inl i :: .inr (.inr (pl + 1)) :: st) M := by
  intro H locs as hS
  have h := hK H locs as hS
  obtain ⟨hx, hb, -, -, -, -, hsp, -⟩ := hF
  have e : ((rs.getD (gIx i) 0 : Nat) : Int) - 1 = gTb pl (gIx i) := by unfold gTb; rw [hl]
  rw [e] at h
  rcases gLay_51 hl with ⟨rfl, rfl⟩ | ⟨rfl, rfl⟩
  · exact va_ti hx hb hsp.2.2.1 hS.2.2.1 (gInb_in hi) rfl hd h
  · exact va_ti hx hb hsp.2.2.2.1 hS.2.2.1 (gInb_in hi) rfl hd h
theorem gs_iaload50 {p : Program} {l : Launch} {e : Env} {R : Room} {s : State} {m : MethodId} {args : Array Value} {below : List Frame} {meth : Method} {c : Code} {Q : State → Prop} {cA : Nat → ClassId} {D : va_G} {ad adV : Nat → Nat} {A : Nat → Prop} {M0 : gM} {nL d ce so : Nat} {cc : ByteArray} {own : String} {pc : Nat} {ls : gL} {st : List gV} {M : gM} {pl n : Nat} {rs : List Nat} {i : Int} (hl : gLay pl = (50, n, rs)) (hi : gInb i (M 1001 0).toNat = true)
    (hF : gFx p R s m args c cA D ad adV A M0 nL d ce so cc own) (hd : decode cc pc = .ok (.iaload, 1)) (hK : gG p l e R s m args below meth c Q cA D ad A M0 nL ce so (pc + 1) ls (.inl (M 1000 (gIx i)) :: st) M) : gG p l e R s m args below meth c Q cA D ad A M0 nL ce so pc ls (.inl i :: .inr (.inr (pl + 1)) :: st) M := by
  intro H locs as hS
  have h := hK H locs as hS
  obtain ⟨hx, hb, -, -, -, -, hsp, -⟩ := hF
  cases gLay_50 hl
  obtain ⟨-, -, -, -, ⟨-, hT⟩, -⟩ := hsp
  rw [hS.2.2.2.2.1] at h
  rw [hS.2.2.2.2.2] at hi
  exact va_ti hx hb hT hS.2.2.1 (gInb_in hi) rfl hd h
theorem gs_arraylen51 {p : Program} {l : Launch} {e : Env} {R : Room} {s : State} {m : MethodId} {args : Array Value} {below : List Frame} {meth : Method} {c : Code} {Q : State → Prop} {cA : Nat → ClassId} {D : va_G} {ad adV : Nat → Nat} {A : Nat → Prop} {M0 : gM} {nL d ce so : Nat} {cc : ByteArray} {own : String} {pc : Nat} {ls : gL} {st : List gV} {M : gM} {pl n : Nat} {rs : List Nat} (hl : gLay pl = (51, n, rs))
    (hF : gFx p R s m args c cA D ad adV A M0 nL d ce so cc own) (hd : decode cc pc = .ok (.arraylength, 1)) (hK : gG p l e R s m args below meth c Q cA D ad A M0 nL ce so (pc + 1) ls (.inl (n : Int) :: st) M) : gG p l e R s m args below meth c Q cA D ad A M0 nL ce so pc ls (.inr (.inr (pl + 1)) :: st) M := by
  intro H locs as hS
  have h := hK H locs as hS
  obtain ⟨hx, hb, -, -, -, -, hsp, -⟩ := hF
  rcases gLay_51 hl with ⟨rfl, rfl⟩ | ⟨rfl, rfl⟩
  · exact va_tlen hx hb hsp.2.2.1 hS.2.2.1 (Int32.ofInt_eq_ofNat).symm hd h
  · exact va_tlen hx hb hsp.2.2.2.1 hS.2.2.1 (Int32.ofInt_eq_ofNat).symm hd h
theorem gs_arraylen50 {p : Program} {l : Launch} {e : Env} {R : Room} {s : State} {m : MethodId} {args : Array Value} {below : List Frame} {meth : Method} {c : Code} {Q : State → Prop} {cA : Nat → ClassId} {D : va_G} {ad adV : Nat → Nat} {A : Nat → Prop} {M0 : gM} {nL d ce so : Nat} {cc : ByteArray} {own : String} {pc : Nat} {ls : gL} {st : List gV} {M : gM} {pl n : Nat} {rs : List Nat} (hl : gLay pl = (50, n, rs))
    (hF : gFx p R s m args c cA D ad adV A M0 nL d ce so cc own) (hd : decode cc pc = .ok (.arraylength, 1)) (hK : gG p l e R s m args below meth c Q cA D ad A M0 nL ce so (pc + 1) ls (.inl (M 1001 0) :: st) M) : gG p l e R s m args below meth c Q cA D ad A M0 nL ce so pc ls (.inr (.inr (pl + 1)) :: st) M := by
  intro H locs as hS
  have h := hK H locs as hS
  obtain ⟨hx, hb, -, -, -, -, hsp, -⟩ := hF
  cases gLay_50 hl
  obtain ⟨-, -, -, -, ⟨h0, hT⟩, -⟩ := hsp
  refine va_tlen hx hb hT hS.2.2.1 ?_ hd h
  show Int32.ofNat (M0 1001 0).toNat = gI (M 1001 0)
  rw [hS.2.2.2.2.2]
  unfold gI
  rw [← Int32.ofInt_eq_ofNat, Int.toNat_of_nonneg h0]
theorem gs_getstatic {p : Program} {l : Launch} {e : Env} {R : Room} {s : State} {m : MethodId} {args : Array Value} {below : List Frame} {meth : Method} {c : Code} {Q : State → Prop} {cA : Nat → ClassId} {D : va_G} {ad adV : Nat → Nat} {A : Nat → Prop} {M0 : gM} {nL d ce so : Nat} {cc : ByteArray} {own : String} {pc : Nat} {ls : gL} {st : List gV} {M : gM} {idx r : Nat} {f : String} (hr : (r = 1002 ∧ f = "FADES") ∨ (r = 1003 ∧ f = "OVER")) (hw : Cond.fieldLink own idx "GriefDoors" f "[I" ∈ gUW)
    (hF : gFx p R s m args c cA D ad adV A M0 nL d ce so cc own) (hd : decode cc pc = .ok (.getstatic idx, 3)) (hK : gG p l e R s m args below meth c Q cA D ad A M0 nL ce so (pc + 3) ls (.inr (.inr (r + 1)) :: st) M) : gG p l e R s m args below meth c Q cA D ad A M0 nL ce so pc ls st M := by
  intro H locs as hS
  have h := hK H locs as hS
  obtain ⟨hx, hb, -, hown, hts, -, hsp, -⟩ := hF
  rcases hr with ⟨rfl, rfl⟩ | ⟨rfl, rfl⟩
  · exact va_gets hx hb hsp.1 hS.2.2.1 hown (hts _ hw) (fun _ h => h) hd h
  · exact va_gets hx hb hsp.2.1 hS.2.2.1 hown (hts _ hw) (fun _ h => h) hd h
theorem gs_getstaticN {p : Program} {l : Launch} {e : Env} {R : Room} {s : State} {m : MethodId} {args : Array Value} {below : List Frame} {meth : Method} {c : Code} {Q : State → Prop} {cA : Nat → ClassId} {D : va_G} {ad adV : Nat → Nat} {A : Nat → Prop} {M0 : gM} {nL d ce so : Nat} {cc : ByteArray} {own : String} {pc : Nat} {ls : gL} {st : List gV} {M : gM} {idx : Nat} (hw : Cond.fieldLinkNest own idx "GriefDoors" "FADES" "[I" "GriefDoors" ∈ gNest)
    (hF : gFx p R s m args c cA D ad adV A M0 nL d ce so cc own) (hd : decode cc pc = .ok (.getstatic idx, 3)) (hK : gG p l e R s m args below meth c Q cA D ad A M0 nL ce so (pc + 3) ls (.inr (.inr (1002 + 1)) :: st) M) : gG p l e R s m args below meth c Q cA D ad A M0 nL ce so pc ls st M := by
  intro H locs as hS
  have h := hK H locs as hS
  obtain ⟨hx, hb, -, hown, hts, -, hsp, -⟩ := hF
  exact va_getsN hx hb hsp.1 hS.2.2.1 hown (va_Nw.use rfl (hsp.2.2.2.2.2.2.2.2.2 _ hw)) (fun _ h => h) hd h
theorem gs_ldc {p : Program} {l : Launch} {e : Env} {R : Room} {s : State} {m : MethodId} {args : Array Value} {below : List Frame} {meth : Method} {c : Code} {Q : State → Prop} {cA : Nat → ClassId} {D : va_G} {ad adV : Nat → Nat} {A : Nat → Prop} {M0 : gM} {nL d ce so : Nat} {cc : ByteArray} {own : String} {pc : Nat} {ls : gL} {st : List gV} {M : gM} {idx : Nat} {v : Int} (hw : Cond.constant own idx (gI v) ∈ gUW)
    (hF : gFx p R s m args c cA D ad adV A M0 nL d ce so cc own) (hd : decode cc pc = .ok (.ldc idx, 2)) (hK : gG p l e R s m args below meth c Q cA D ad A M0 nL ce so (pc + 2) ls (.inl v :: st) M) : gG p l e R s m args below meth c Q cA D ad A M0 nL ce so pc ls st M := by
  intro H locs as hS
  exact lv_ldc hF.1 hF.2.1 hF.2.2.2.1 (hF.2.2.2.2.1 _ hw) hd (hK H locs as hS)
theorem gs_ldcw {p : Program} {l : Launch} {e : Env} {R : Room} {s : State} {m : MethodId} {args : Array Value} {below : List Frame} {meth : Method} {c : Code} {Q : State → Prop} {cA : Nat → ClassId} {D : va_G} {ad adV : Nat → Nat} {A : Nat → Prop} {M0 : gM} {nL d ce so : Nat} {cc : ByteArray} {own : String} {pc : Nat} {ls : gL} {st : List gV} {M : gM} {idx : Nat} {v : Int} (hw : Cond.constant own idx (gI v) ∈ gUW)
    (hF : gFx p R s m args c cA D ad adV A M0 nL d ce so cc own) (hd : decode cc pc = .ok (.ldc_w idx, 3)) (hK : gG p l e R s m args below meth c Q cA D ad A M0 nL ce so (pc + 3) ls (.inl v :: st) M) : gG p l e R s m args below meth c Q cA D ad A M0 nL ce so pc ls st M := by
  intro H locs as hS
  exact lv_ldcw hF.1 hF.2.1 hF.2.2.2.1 (hF.2.2.2.2.1 _ hw) hd (hK H locs as hS)
theorem gs_ldc2 {p : Program} {l : Launch} {e : Env} {R : Room} {s : State} {m : MethodId} {args : Array Value} {below : List Frame} {meth : Method} {c : Code} {Q : State → Prop} {cA : Nat → ClassId} {D : va_G} {ad adV : Nat → Nat} {A : Nat → Prop} {M0 : gM} {nL d ce so : Nat} {cc : ByteArray} {own : String} {pc : Nat} {ls : gL} {st : List gV} {M : gM} {idx : Nat} {v : Int} (hw : Cond.constantLong own idx (gJ v) ∈ gUW)
    (hF : gFx p R s m args c cA D ad adV A M0 nL d ce so cc own) (hd : decode cc pc = .ok (.ldc2_w idx, 3)) (hK : gG p l e R s m args below meth c Q cA D ad A M0 nL ce so (pc + 3) ls (.inr (.inl v) :: st) M) : gG p l e R s m args below meth c Q cA D ad A M0 nL ce so pc ls st M := by
  intro H locs as hS
  exact lv_ldc2 hF.1 hF.2.1 hF.2.2.2.1 (hF.2.2.2.2.1 _ hw) hd (hK H locs as hS)
theorem gs_ldcS {p : Program} {l : Launch} {e : Env} {R : Room} {s : State} {m : MethodId} {args : Array Value} {below : List Frame} {meth : Method} {c : Code} {Q : State → Prop} {cA : Nat → ClassId} {D : va_G} {ad adV : Nat → Nat} {A : Nat → Prop} {M0 : gM} {nL d ce so : Nat} {cc : ByteArray} {own : String} {pc : Nat} {ls : gL} {st : List gV} {M : gM} {idx j : Nat} {tx : String} (ho : own = RX7) (hj : gStrs[j]? = some (idx, tx))
    (hF : gFx p R s m args c cA D ad adV A M0 nL d ce so cc own) (hd : decode cc pc = .ok (.ldc idx, 2)) (hK : gG p l e R s m args below meth c Q cA D ad A M0 nL ce so (pc + 2) ls (.inr (.inr (1010 + j + 1)) :: st) M) : gG p l e R s m args below meth c Q cA D ad A M0 nL ce so pc ls st M := by
  intro H locs as hS
  have h := hK H locs as hS
  obtain ⟨hx, hb, -, hown, hts, -, hsp, -⟩ := hF
  subst ho
  exact va_ldcS hx hb hown (hsp.2.2.2.2.2.1 j _ hj) hd h
