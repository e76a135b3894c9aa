-- 10: runs, methods
theorem gG_cut {p : Program} {l : Launch} {e : Env} {R : Room} {s : State} {m : MethodId} {args : Array Value} {below : List Frame} {meth : Method} {c : Code} {Q : State → Prop} {cA : Nat → ClassId} {D : va_G} {ad : Nat → Nat} {A : Nat → Prop} {M0 : gM} {nL ce so : Nat} {pc k : Nat} {ls : gL} {st : List gV} {M : gM} (h : gG p l e R s m args below meth c Q cA D ad A M0 nL ce so pc (gCut k ls) st M) : gG p l e R s m args below meth c Q cA D ad A M0 nL ce so pc ls st M := by
  intro H locs as hS
  exact h H locs as ⟨hS.1, hS.2.1, hS.2.2.1, hS.2.2.2.1.cut k, hS.2.2.2.2⟩
section Runs
variable {α : Type} {p : Program} {l : Launch} {e : Env} {R : Room} {s : State} {m : MethodId} {args : Array Value} {below : List Frame} {meth : Method} {c : Code} {Q : State → Prop} {cA : Nat → ClassId} {D : va_G} {ad adV : Nat → Nat} {A : Nat → Prop} {M0 : gM} {nL d ce so : Nat} {cc : ByteArray} {own : String} {C : gCl} {ρ : gM → Option gV → Option α} {z : α} {rt : Option FieldType} {code : Nat → Option gE} {hdf : Nat → Nat}
/-- what calls and returns owe -/
def gOwe (l : Launch) (cA : Nat → ClassId) (D : va_G) (ad adV : Nat → Nat) (d : Nat) (C : gCl) : Prop :=
  (∀ (k : Nat) (q : gTI) (av : List gV) (M : gM) (r : gR), gTab k = some q → C k av M = some r → gCtr l cA D ad adV d q.1 (.code q.1 q.2.1 q.2.2.1 q.2.2.2 :: gUW) av M r) ∧
  (∀ (k : Nat) (av : List gV) (M : gM) (r : gR), 900 ≤ k → C k av M = some r → ∃ (pl : Nat) (av' : List gV), av = .inr (.inr (pl + 1)) :: av' ∧ (gLay pl).1 = 60)
def gRet (p : Program) (l : Launch) (e : Env) (R : Room) (s : State) (m : MethodId) (args : Array Value) (below : List Frame) (meth : Method) (c : Code) (Q : State → Prop) (cA : Nat → ClassId) (D : va_G) (ad : Nat → Nat) (A : Nat → Prop) (M0 : gM) (nL ce so : Nat) (cc : ByteArray) (rt : Option FieldType) {α : Type} (ρ : gM → Option gV → Option α) (z : α) : Prop :=
  (∀ (pc : Nat) (ls : gL) (x : Int) (M : gM), decode cc pc = .ok (.ireturn, 1) → rt = some .int → ρ M (some (.inl x)) = some z → gG p l e R s m args below meth c Q cA D ad A M0 nL ce so pc ls [.inl x] M) ∧
  (∀ (pc : Nat) (ls : gL) (x : Int) (M : gM), decode cc pc = .ok (.ireturn, 1) → rt = some .boolean → gB01 x = true → ρ M (some (.inl x)) = some z → gG p l e R s m args below meth c Q cA D ad A M0 nL ce so pc ls [.inl x] M) ∧
  (∀ (pc : Nat) (ls : gL) (x : Nat) (M : gM), decode cc pc = .ok (.areturn, 1) → rt = some (.object "java/lang/String") → ρ M (some (.inr (.inr (x + 1)))) = some z → gG p l e R s m args below meth c Q cA D ad A M0 nL ce so pc ls [.inr (.inr (x + 1))] M) ∧
  (∀ (pc : Nat) (ls : gL) (M : gM), decode cc pc = .ok (.return_, 1) → rt = none → ρ M none = some z → gG p l e R s m args below meth c Q cA D ad A M0 nL ce so pc ls [] M)
theorem gSeg_sound (hC : gOwe l cA D ad adV d C) (hF : gFx p R s m args c cA D ad adV A M0 nL d ce so cc own) (hR : gRet p l e R s m args below meth c Q cA D ad A M0 nL ce so cc rt ρ z) (hcode : ∀ (pc : Nat) (ee : gE), code pc = some ee → gOk own rt cc pc ee = true) {B : gK α}
    (hB : ∀ (pc : Nat) (ls : gL) (st : List gV) (M : gM), B pc ls st M = some z → gG p l e R s m args below meth c Q cA D ad A M0 nL ce so pc ls st M) : ∀ (F pc : Nat) (ls : gL) (st : List gV) (M : gM), gSeg gLay C ρ code hdf B F pc ls st M = some z → gG p l e R s m args below meth c Q cA D ad A M0 nL ce so pc ls st M := by
  intro F
  induction F with
  | zero => intro pc ls st M h; cases h
  | succ F ih =>
    intro pc ls st M h
    unfold gSeg at h
    split at h
    · cases h
    · rename_i ee hee
      refine gStep_sound hC.1 hC.2 hF ?_ hR.1 hR.2.1 hR.2.2.1 hR.2.2.2 (hcode pc ee hee) h
      intro pc' ls' st' M' h'
      split at h'
      · exact ih _ _ _ _ h'
      · exact gG_cut (hB _ _ _ _ h')
theorem gRun_sound (hC : gOwe l cA D ad adV d C) (hF : gFx p R s m args c cA D ad adV A M0 nL d ce so cc own) (hR : gRet p l e R s m args below meth c Q cA D ad A M0 nL ce so cc rt ρ z) (hcode : ∀ (pc : Nat) (ee : gE), code pc = some ee → gOk own rt cc pc ee = true) : ∀ (n pc : Nat) (ls : gL) (st : List gV) (M : gM), gRun gLay C ρ code hdf n pc ls st M = some z → gG p l e R s m args below meth c Q cA D ad A M0 nL ce so pc ls st M := by
  intro n
  induction n with
  | zero => intro pc ls st M h; cases h
  | succ n ih =>
    intro pc ls st M h
    exact gSeg_sound hC hF hR hcode ih _ _ _ _ _ h
end Runs
/-- a method's own returns -/
theorem gRet_of {p : Program} {l : Launch} {e : Env} {d : Nat} {s : State} {m : MethodId} {args : Array Value} {below : List Frame} {meth : Method} {c : Code} {cA : Nat → ClassId} {D : va_G} {ad adV : Nat → Nat} {M0 : gM} {nL : Nat} {cc : ByteArray} {own : String} {rt : Option FieldType} {r : gR} {A : Nat → Prop} (hF : gFx p (gRm (d + 1)) s m args c cA D ad adV A M0 nL d 0 0 cc own) (hr : meth.sig.returnType = rt) (hlocks : meth.locks = false) :
    gRet p l e (gRm (d + 1)) s m args below meth c (MQ below (gQc cA D ad M0 r A) args s 0 0 A) cA D ad A M0 nL 0 0 cc rt (fun M v => some (M, v)) r := by
  have hx := hF.1
  have hb := hF.2.1
  refine ⟨?_, ?_, ?_, ?_⟩
  · intro pc ls x M hd hrt hρ H locs as hS
    cases hρ
    obtain ⟨hP, hD, hS0, hL, hm1, hm2⟩ := hS
    exact W.iret hx hb (hr.trans hrt) (fun t ht hW => ⟨⟨rfl, by rw [ht]; exact hP, hm1, hm2⟩, hS0.F ht⟩) hS0.2.2 hd hlocks
  · intro pc ls x M hd hrt hbx hρ H locs as hS
    cases hρ
    obtain ⟨hP, hD, hS0, hL, hm1, hm2⟩ := hS
    refine W.zret (ty := .boolean) hx hb (hr.trans hrt) ?_ (fun t ht hW => ⟨⟨rfl, by rw [ht]; exact hP, hm1, hm2⟩, hS0.F ht⟩) hS0.2.2 hd hlocks
    rcases gB01_cases hbx with h | h <;> rw [h] <;> rfl
  · intro pc ls x M hd hrt hρ H locs as hS
    cases hρ
    obtain ⟨hP, hD, hS0, hL, hm1, hm2⟩ := hS
    exact W.aret hx hb (hr.trans hrt) (Or.inl ⟨_, rfl⟩) (Or.inr ⟨_, rfl⟩) (fun t ht hW => ⟨⟨rfl, by rw [ht]; exact hP, hm1, hm2⟩, hS0.F ht⟩) hS0.2.2 hd hlocks
  · intro pc ls M hd hrt hρ H locs as hS
    cases hρ
    obtain ⟨hP, hD, hS0, hL, hm1, hm2⟩ := hS
    exact W.vret hx hb (hr.trans hrt) (fun t ht hW => ⟨⟨rfl, by rw [ht]; exact hP, hm1, hm2⟩, hS0.F ht⟩) hS0.2.2 hd hlocks
theorem gcV_catA (ad ad' : Nat → Nat) (v : gV) : (gcV ad v).category = (gcV ad' v).category := by
  match v with
  | .inl _ => rfl
  | .inr (.inl _) => rfl
  | .inr (.inr 0) => rfl
  | .inr (.inr (_ + 1)) => rfl
theorem gArg_lenA (ad : Nat → Nat) : ∀ av : List gV, (gArg av).length = (lg_sl (av.map (gcV ad))).length
  | [] => rfl
  | .inl x :: l => by
    show (gArg l).length + 1 = _
    rw [gArg_lenA ad l]; rfl
  | .inr (.inl x) :: l => by
    show (gArg l).length + 1 + 1 = _
    rw [gArg_lenA ad l]; rfl
  | .inr (.inr 0) :: l => by
    show (gArg l).length + 1 = _
    rw [gArg_lenA ad l]; rfl
  | .inr (.inr (r + 1)) :: l => by
    show (gArg l).length + 1 = _
    rw [gArg_lenA ad l]; rfl
theorem gArg_in (ad : Nat → Nat) : ∀ (av : List gV) (k i : Nat) (v : gV), (gArg av)[i]? = some (some v) → (k + i, gcV ad v) ∈ lv_args k (av.map (gcV ad))
  | [], k, i, v, h => by simp [gArg] at h
  | .inl x :: l, k, i, v, h => by
    cases i with
    | zero => simp [gArg] at h; subst h; simp [lv_args]
    | succ i =>
      have := gArg_in ad l (k + 1) i v (by simpa [gArg] using h)
      rw [show k + (i + 1) = k + 1 + i by omega]
      simp only [List.map_cons, lv_args]
      exact List.mem_cons_of_mem _ (by simpa [gcV, Value.category] using this)
  | .inr (.inl x) :: l, k, i, v, h => by
    match i, h with
    | 0, h => simp [gArg] at h; subst h; simp [lv_args]
    | 1, h => simp [gArg] at h
    | i + 2, h =>
      have := gArg_in ad l (k + 2) i v (by simpa [gArg] using h)
      rw [show k + (i + 2) = k + 2 + i by omega]
      simp only [List.map_cons, lv_args]
      exact List.mem_cons_of_mem _ (by simpa [gcV, Value.category] using this)
  | .inr (.inr 0) :: l, k, i, v, h => by
    cases i with
    | zero => simp [gArg] at h; subst h; simp [lv_args]
    | succ i =>
      have := gArg_in ad l (k + 1) i v (by simpa [gArg] using h)
      rw [show k + (i + 1) = k + 1 + i by omega]
      simp only [List.map_cons, lv_args]
      exact List.mem_cons_of_mem _ (by simpa [gcV, Value.category] using this)
  | .inr (.inr (r + 1)) :: l, k, i, v, h => by
    cases i with
    | zero => simp [gArg] at h; subst h; simp [lv_args]
    | succ i =>
      have := gArg_in ad l (k + 1) i v (by simpa [gArg] using h)
      rw [show k + (i + 1) = k + 1 + i by omega]
      simp only [List.map_cons, lv_args]
      exact List.mem_cons_of_mem _ (by simpa [gcV, Value.category] using this)
theorem gEnt_LH (ad : Nat → Nat) {av : List gV} {mL : Nat} {as : Array Slot} (hlen : (gArg av).length ≤ mL) (h : lv_has as mL (lv_args 0 (av.map (gcV ad)))) : gLH ad as mL (gEnt mL av) := by
  refine ⟨h.1, by simp [gEnt]; omega, h.2.1, fun i v hv => ?_⟩
  unfold gEnt at hv
  by_cases hi : i < (gArg av).length
  · rw [List.getElem?_append_left hi] at hv
    have := gArg_in ad av 0 i v hv
    rw [Nat.zero_add] at this
    exact h.2.2 _ this
  · rw [List.getElem?_append_right (by omega), List.getElem?_replicate] at hv
    split at hv <;> cases hv
/-- the methods' table: each entry is the class's own, and its code is checked -/
def gMiB (k : Nat) : Bool := match gMi k with
  | some q => decide (q.2.2.2.2.1 = q.1.cls) && decide (plainName q.1.cls = true)
  | none => true
theorem gMi_lt {k : Nat} {q : gMI} (h : gMi k = some q) : k < 175 := by
  by_cases hk : k < 175
  · exact hk
  · exfalso
    have hb : ∀ c, c ≤ 175 → Nat.blt k c = false := fun c hc => by
      cases hz : Nat.blt k c with
      | false => rfl
      | true => exact absurd (Nat.blt_eq.mp hz) (by omega)
    unfold gMi at h
    rw [hb 87 (by decide), hb 131 (by decide), hb 153 (by decide), hb 164 (by decide), hb 169 (by decide), hb 172 (by decide), hb 173 (by decide), hb 174 (by decide)] at h
    simp only [cond_false] at h
    have hq := (cond_some h).1
    have := Nat.eq_of_beq_eq_true hq
    omega
theorem gMi_B : (List.range 175).all gMiB = true := by decide +kernel
theorem gMi_ok {k : Nat} {q : gMI} (h : gMi k = some q) : q.2.2.2.2.1 = q.1.cls ∧ plainName q.1.cls = true := by
  have h1 := List.all_eq_true.mp gMi_B k (List.mem_range.mpr (gMi_lt h))
  unfold gMiB at h1
  rw [h] at h1
  obtain ⟨h2, h3⟩ := Bool.and_eq_true_iff.mp h1
  exact ⟨of_decide_eq_true h2, of_decide_eq_true h3⟩
def gCodeOk (q : gMI) : Prop := ∀ (pc : Nat) (ee : gE), q.2.2.2.2.2.2.1 pc = some ee → gOk q.2.2.2.2.1 q.2.2.2.1 q.2.1 pc ee = true
theorem gCodeOk_of {q : gMI} {Z : Nat} (hz : ∀ pc ee, q.2.2.2.2.2.2.1 pc = some ee → pc < Z) (hk : (List.range Z).all (fun pc => match q.2.2.2.2.2.2.1 pc with
  | some e => gOk q.2.2.2.2.1 q.2.2.2.1 q.2.1 pc e
  | none => true) = true) : gCodeOk q := by
  intro pc ee h
  have h1 := List.all_eq_true.mp hk pc (List.mem_range.mpr (hz pc ee h))
  rw [h] at h1
  exact h1
theorem cond_lt {Z pc : Nat} {x : Option gE} {ee : gE} (h : cond (Nat.blt pc Z) x none = some ee) : pc < Z := Nat.blt_eq.mp (cond_some h).1
theorem gBody_sound {l : Launch} {cA : Nat → ClassId} {D : va_G} {ad adV : Nat → Nat} {N d : Nat} {C : gCl} {q : gMI} {av : List gV} {M : gM} {r : gR} (hC : gOwe l cA D ad adV d C) (hq1 : q.2.2.2.2.1 = q.1.cls) (hq2 : plainName q.1.cls = true) (hcode : gCodeOk q) (h : gBody N C q av M = some r) : gCtr l cA D ad adV (d + 1) q.1 (.code q.1 q.2.1 q.2.2.1 q.2.2.2.1 :: gUW) av M r := by
  intro sz
  unfold gBody at h
  replace h := cond_some h
  obtain ⟨hlen, h⟩ := h
  refine Met.ofW (cc := q.2.1) (maxL := q.2.2.1) (ret := q.2.2.2.1) hq2 rfl ?_
  intro p e s m args below meth c s₁ B hml hv
  obtain ⟨rfl, hsz, hP, hK, hD0, hsp⟩ := hv
  subst hsz
  have hts := atoms_spec (ws := .code q.1 q.2.1 q.2.2.1 q.2.2.2.1 :: gUW) B.pre
  have hF : gFx p (gRm (d + 1)) s m (av.map (gcV ad)).toArray c cA D ad adV (va_A (gcW cA ad M) s.heap.size) M q.2.2.1 d 0 0 q.2.1 q.2.2.2.2.1 := ⟨B.exec, B.bytes, hml, by rw [hq1]; exact findClass_of_methodNamed B.named, fun w hw => hts w (List.mem_cons_of_mem _ hw), hK, hsp, fun q h => Or.inr h, ⟨Nat.le_refl _, Nat.le_refl _, Nat.le_refl _⟩, Nat.le_refl _⟩
  have hR := gRet_of (l := l) (e := e) (below := below) (meth := meth) (r := r) hF B.returns B.notSynchronized
  have hG := gRun_sound hC hF hR hcode _ _ _ _ _ h
  have hl := lv_entry (av.map (gcV ad)) (n := q.2.2.1) (by rw [← gArg_lenA ad]; exact Nat.le_of_ble_eq_true hlen)
  rw [lg_entry_eq]
  generalize (lg_sl (av.map (gcV ad)) ++ List.replicate (q.2.2.1 - (lg_sl (av.map (gcV ad))).length) Slot.unset).toArray = as at hl ⊢
  exact hG s.heap [] as ⟨hP, hD0.self, va_S.rf, gEnt_LH ad (Nat.le_of_ble_eq_true hlen) hl, rfl, rfl⟩
/-- what the two methods of strings owe -/
def gStrOwe (l : Launch) (cA : Nat → ClassId) (D : va_G) (ad adV : Nat → Nat) : Prop :=
  (∀ (d : Nat) (av : List gV) (M : gM) (r : gR), 5 < d → gSL av M = some r → gCtr l cA D ad adV (d + 1) yJ0_length_8abf5 (.code yJ0_length_8abf5 cJ0_length_8abf5 1 (some .int) :: gUW) av M r) ∧
  (∀ (d : Nat) (av : List gV) (M : gM) (r : gR), 5 < d → gSC av M = some r → gCtr l cA D ad adV (d + 1) yJ0_charAt_5068e (.code yJ0_charAt_5068e cJ0_charAt_5068e 2 (some .char) :: gUW) av M r)
theorem gEv_str {N d k : Nat} {av : List gV} {M : gM} {r : gR} (hk : 900 ≤ k) (h : gEv N d k av M = some r) : ∃ (pl : Nat) (av' : List gV), av = .inr (.inr (pl + 1)) :: av' ∧ (gLay pl).1 = 60 := by
  cases d with
  | zero => cases h
  | succ d =>
    unfold gEv at h
    rw [show Nat.ble 900 k = true from Nat.ble_eq.mpr hk] at h
    simp only [cond_true] at h
    replace h := cond_some h
    obtain ⟨-, h⟩ := h
    cases hb : Nat.beq k 900 with
    | true =>
      rw [hb] at h
      simp only [cond_true] at h
      unfold gSL at h
      split at h
      · replace h := cond_some h
        exact ⟨_, _, rfl, Nat.eq_of_beq_eq_true h.1⟩
      · cases h
    | false =>
      rw [hb] at h
      simp only [cond_false] at h
      unfold gSC at h
      split at h
      · replace h := cond_some h
        exact ⟨_, _, rfl, Nat.eq_of_beq_eq_true h.1⟩
      · cases h
theorem gEv_sound {l : Launch} {cA : Nat → ClassId} {D : va_G} {ad adV : Nat → Nat} {N : Nat} (hok : ∀ (k : Nat) (q : gMI), gMi k = some q → gCodeOk q) (hS : gStrOwe l cA D ad adV) : ∀ d : Nat, gOwe l cA D ad adV d (gEv N d) := by
  intro d
  induction d with
  | zero => exact ⟨fun k q av M r _ h => (by cases h), fun k av M r _ h => (by cases h)⟩
  | succ d ih =>
    refine ⟨fun k q av M r hq h => ?_, fun k av M r hk h => gEv_str hk h⟩
    unfold gEv at h
    cases hk : Nat.ble 900 k with
    | true =>
      rw [hk] at h
      simp only [cond_true] at h
      replace h := cond_some h
      obtain ⟨h5, h⟩ := h
      have h5 := Nat.blt_eq.mp h5
      unfold gTab at hq
      rw [hk] at hq
      simp only [cond_true] at hq
      cases hb : Nat.beq k 900 with
      | true =>
        rw [hb] at h hq
        simp only [cond_true] at h hq
        cases hq
        exact hS.1 d av M r h5 h
      | false =>
        rw [hb] at h hq
        simp only [cond_false] at h hq
        cases hq
        exact hS.2 d av M r h5 h
    | false =>
      rw [hk] at h
      simp only [cond_false] at h
      unfold gTab at hq
      rw [hk] at hq
      simp only [cond_false] at hq
      cases hm : gMi k with
      | none => rw [hm] at h; cases h
      | some q1 =>
        rw [hm] at h hq
        cases hq
        obtain ⟨a1, a2⟩ := gMi_ok hm
        exact gBody_sound ih a1 a2 (hok k q1 hm) h
