-- 02: a small machine of our own over places: its values, its store, its steps
abbrev gV : Type := Sum Int (Sum Int Nat)
abbrev gM : Type := Nat → Nat → Int
abbrev gL : Type := List (Option gV)
abbrev gR : Type := gM × Option gV
abbrev gE : Type := ClassFile.Instr × Nat × Nat × Nat × Nat × Nat × List (Int × Nat)
abbrev gK (α : Type) : Type := Nat → gL → List gV → gM → Option α
abbrev gCl : Type := Nat → List gV → gM → Option gR
def gI (x : Int) : Int32 := Int32.ofInt x
def gW (x : Int) : Int := (gI x).toInt
def gJ (x : Int) : Int64 := Int64.ofInt x
def gIx (x : Int) : Nat := (gW x).toNat
theorem gInb_ex : ∃ f : Int → Nat → Bool, ∀ i n, f i n = decide (0 ≤ gW i ∧ gW i < (n : Int)) := ⟨_, fun _ _ => rfl⟩
/-- (by choice, so that nothing unfolds it) -/
noncomputable def gInb : Int → Nat → Bool := Classical.choose gInb_ex
theorem gInb_eq (i : Int) (n : Nat) : gInb i n = decide (0 ≤ gW i ∧ gW i < (n : Int)) := Classical.choose_spec gInb_ex i n
theorem gLt_ex : ∃ f : Int → Int → Bool, ∀ x y, f x y = decide (gW x < gW y) := ⟨_, fun _ _ => rfl⟩
noncomputable def gLt : Int → Int → Bool := Classical.choose gLt_ex
theorem gLt_eq (x y : Int) : gLt x y = decide (gW x < gW y) := Classical.choose_spec gLt_ex x y
theorem gEq_ex : ∃ f : Int → Int → Bool, ∀ x y, f x y = decide (gW x = gW y) := ⟨_, fun _ _ => rfl⟩
noncomputable def gEq : Int → Int → Bool := Classical.choose gEq_ex
theorem gEq_eq (x y : Int) : gEq x y = decide (gW x = gW y) := Classical.choose_spec gEq_ex x y
def gIf {α : Type} (b : Bool) (x : Option α) : Option α := cond b x none
def gDiv (x y : Int) : Int := (gI x / gI y).toInt
def gRem (x y : Int) : Int := (gI x - gI x / gI y * gI y).toInt
def gAnd (x y : Int) : Int := (gI x &&& gI y).toInt
def gOr (x y : Int) : Int := (gI x ||| gI y).toInt
def gXor (x y : Int) : Int := (gI x ^^^ gI y).toInt
def gShl (x y : Int) : Int := (gI x <<< (gI y &&& 31)).toInt
def gShr (x y : Int) : Int := (gI x >>> (gI y &&& 31)).toInt
def gLc (x y : Int) : Int := (lg_cmp (gJ x) (gJ y)).toInt
def gMax (x y : Int) : Int := (if gI x < gI y then gI y else gI x).toInt
def gMin (x y : Int) : Int := (if gI y < gI x then gI y else gI x).toInt
noncomputable def gB01 (v : Int) : Bool := gEq v 0 || gEq v 1
def gU (M : gM) (p j : Nat) (v : Int) : gM := fun q k => if q = p ∧ k = j then v else M q k
/-- a piece of a row copied: n elements of row q from sp on into row p from dp on -/
def gCp (M : gM) (q sp p dp n : Nat) : gM := fun r k => if r = p ∧ dp ≤ k ∧ k < dp + n then M q (sp + (k - dp)) else M r k
noncomputable def gSwL {α : Type} (x : Int) (d : Nat) (K : Nat → Option α) : List (Int × Nat) → Option α
  | [] => K d
  | q :: l => cond (gEq x q.1) (K q.2) (gSwL x d K l)
noncomputable def gBr {α : Type} (c : ClassFile.Cond) (x y : Int) (t f : Option α) : Option α := match c with
  | .eq => cond (gEq x y) t f
  | .ne => cond (gEq x y) f t
  | .lt => cond (gLt x y) t f
  | .ge => cond (gLt x y) f t
  | .gt => cond (gLt y x) t f
  | .le => cond (gLt y x) f t
def gCi {α : Type} (o : Option gR) (K : gM → Int → Option α) : Option α := match o with
  | some (M, some (.inl x)) => K M x
  | _ => none
def gCv {α : Type} (o : Option gR) (K : gM → Option α) : Option α := match o with
  | some (M, none) => K M
  | _ => none
def gCr {α : Type} (o : Option gR) (K : gM → Nat → Option α) : Option α := match o with
  | some (M, some (.inr (.inr r))) => K M r
  | _ => none
/-- no long lies in the place ahead -/
def gOkS (ls : gL) (i : Nat) : Bool := match i with
  | 0 => true
  | j + 1 => match ls[j]? with
    | some (some (.inr (.inl _))) => false
    | _ => true
def gLdI {α : Type} (ls : gL) (i : Nat) (K : Int → Option α) : Option α := match ls[i]? with
  | some (some (.inl x)) => K x
  | _ => none
def gLdL {α : Type} (ls : gL) (i : Nat) (K : Int → Option α) : Option α := match ls[i]? with
  | some (some (.inr (.inl x))) => K x
  | _ => none
def gLdA {α : Type} (ls : gL) (i : Nat) (K : Nat → Option α) : Option α := match ls[i]? with
  | some (some (.inr (.inr (r + 1)))) => K r
  | _ => none
def gSt {α : Type} (ls : gL) (i : Nat) (v : gV) (K : gL → Option α) : Option α := cond (gOkS ls i && Nat.blt i ls.length) (K (ls.set i (some v))) none
/-- the fixed shape of the store: place ↦ (tag, length, what a row of references or the slots of an object hold). Tags: 0 ints, 1 booleans, 2 rows of Griefs, 3 rows of drawers, 4 + c an object of class c; 50 the script, 51 a fixed row (each number one more) -/
abbrev gLy : Type := Nat → Nat × Nat × List Nat
def gGf {α : Type} (Ly : gLy) (M : gM) (p ci sl : Nat) (K : gV → Option α) : Option α := match Ly p with
  | (t, _, rs) => cond (Nat.beq t (ci + 4)) (match rs[sl]? with
    | some 0 => K (.inl (M p sl))
    | some (r + 1) => K (.inr (.inr (r + 1)))
    | none => none) none
noncomputable def gPf {α : Type} (Ly : gLy) (M : gM) (p ci sl : Nat) (v : Int) (K : gM → Option α) : Option α := match Ly p with
  | (t, _, rs) => cond (Nat.beq t (ci + 4)) (match rs[sl]? with
    | some 0 => K (gU M p sl v)
    | _ => none) none
noncomputable def gAl {α : Type} (Ly : gLy) (M : gM) (p : Nat) (i : Int) (K : Int → Option α) : Option α := match Ly p with
  | (0, n, _) => gIf (gInb i n) (K (M p (gIx i)))
  | (50, _, _) => gIf (gInb i (M 1001 0).toNat) (K (M 1000 (gIx i)))
  | (51, n, rs) => gIf (gInb i n) (K (((rs.getD (gIx i) 0 : Nat) : Int) - 1))
  | _ => none
noncomputable def gAs {α : Type} (Ly : gLy) (M : gM) (p : Nat) (i v : Int) (K : gM → Option α) : Option α := match Ly p with
  | (0, n, _) => gIf (gInb i n) (K (gU M p (gIx i) v))
  | _ => none
noncomputable def gBl {α : Type} (Ly : gLy) (M : gM) (p : Nat) (i : Int) (K : Int → Option α) : Option α := match Ly p with
  | (1, n, _) => gIf (gInb i n) (K (M p (gIx i)))
  | _ => none
noncomputable def gBs {α : Type} (Ly : gLy) (M : gM) (p : Nat) (i v : Int) (K : gM → Option α) : Option α := match Ly p with
  | (1, n, _) => gIf (gInb i n) (gIf (gB01 v) (K (gU M p (gIx i) v)))
  | _ => none
/-- the number below n that i is -/
noncomputable def gSel {α : Type} (i : Int) (f : Nat → Option α) : Nat → Option α
  | 0 => none
  | n + 1 => cond (gEq i ((n : Nat) : Int)) (f n) (gSel i f n)
noncomputable def gAa {α : Type} (Ly : gLy) (p : Nat) (i : Int) (K : Nat → Option α) : Option α := match Ly p with
  | (2, n, [b, d]) => gIf (gInb i n) (gSel i (fun j => K (b + d * j)) n)
  | (3, n, [b, d]) => gIf (gInb i n) (gSel i (fun j => K (b + d * j)) n)
  | _ => none
def gLn {α : Type} (Ly : gLy) (M : gM) (p : Nat) (K : Int → Option α) : Option α := match Ly p with
  | (0, n, _) => K (n : Int)
  | (50, _, _) => K (M 1001 0)
  | (51, n, _) => K (n : Int)
  | _ => none
/-- System.arraycopy over rows of ints -/
noncomputable def gAc {α : Type} (Ly : gLy) (M : gM) (q : Nat) (sp : Int) (p : Nat) (dp n : Int) (K : gM → Option α) : Option α := match Ly q, Ly p with
  | (0, n0, _), (0, n1, _) => gIf (decide (0 ≤ gW sp ∧ 0 ≤ gW dp ∧ 0 ≤ gW n ∧ gW sp + gW n ≤ (n0 : Int) ∧ gW dp + gW n ≤ (n1 : Int))) (K (gCp M q (gIx sp) p (gIx dp) (gIx n)))
  | _, _ => none
/-- the strings, by their bytes -/
def gStr (j : Nat) : List Nat := match j with
  | 0 => [103, 117, 101, 115, 116]
  | 1 => [119, 105, 100, 111, 119]
  | 2 => [103, 101, 110, 101, 114, 97, 108]
  | 3 => [99, 104, 105, 108, 100]
  | 4 => [115, 97, 105, 110, 116]
  | 5 => [104, 111, 117, 115, 101]
  | _ => [112, 97, 105, 114]
/-- what a call gives back, by the kind of its answer: 0 nothing, 1 a number, 2 a reference -/
def gRt {α : Type} (rt : Nat) (o : Option gR) (K : gM → List gV → Option α) (st : List gV) : Option α := match rt with
  | 0 => gCv o (fun M => K M st)
  | 1 => gCi o (fun M x => K M (.inl x :: st))
  | _ => gCr o (fun M r => K M (.inr (.inr r) :: st))
def gSm (st : List gV) : Bool := Nat.ble st.length 4
/-- a step. r1, r2, r3: what the tables say of the instruction; Ly the store's shape; C the calls; ρ what an answer becomes; K what follows -/
noncomputable def gStep {α : Type} (Ly : gLy) (C : gCl) (ρ : gM → Option gV → Option α) (e : gE) (pc : Nat) (ls : gL) (st : List gV) (M : gM) (K : gK α) : Option α :=
  match e with
  | (i, _, r1, r2, r3, r4, tl) => match i with
    | .iconst n => K (pc + 1) ls (.inl n :: st) M
    | .bipush n => K (pc + 2) ls (.inl n :: st) M
    | .sipush n => K (pc + 3) ls (.inl n :: st) M
    | .lconst n => K (pc + 1) ls (.inr (.inl ((n : Nat) : Int)) :: st) M
    | .ldc _ => match r3 with
      | 0 => K (pc + 2) ls (.inl (r1 : Int) :: st) M
      | _ => K (pc + 2) ls (.inr (.inr (r1 + 1)) :: st) M
    | .ldc_w _ => K (pc + 3) ls (.inl (r1 : Int) :: st) M
    | .ldc2_w _ => K (pc + 3) ls (.inr (.inl ((r1 : Int) - (r2 : Int))) :: st) M
    | .iload_n n => gLdI ls n (fun x => K (pc + 1) ls (.inl x :: st) M)
    | .iload n => gLdI ls n (fun x => K (pc + 2) ls (.inl x :: st) M)
    | .lload_n n => gLdL ls n (fun x => K (pc + 1) ls (.inr (.inl x) :: st) M)
    | .lload n => gLdL ls n (fun x => K (pc + 2) ls (.inr (.inl x) :: st) M)
    | .aload_n n => gLdA ls n (fun x => K (pc + 1) ls (.inr (.inr (x + 1)) :: st) M)
    | .aload n => gLdA ls n (fun x => K (pc + 2) ls (.inr (.inr (x + 1)) :: st) M)
    | .istore_n n => match st with
      | .inl x :: st => gSt ls n (.inl x) (fun ls => K (pc + 1) ls st M)
      | _ => none
    | .istore n => match st with
      | .inl x :: st => gSt ls n (.inl x) (fun ls => K (pc + 2) ls st M)
      | _ => none
    | .astore_n n => match st with
      | .inr (.inr (r + 1)) :: st => gSt ls n (.inr (.inr (r + 1))) (fun ls => K (pc + 1) ls st M)
      | _ => none
    | .astore n => match st with
      | .inr (.inr (r + 1)) :: st => gSt ls n (.inr (.inr (r + 1))) (fun ls => K (pc + 2) ls st M)
      | _ => none
    | .iinc n d => gLdI ls n (fun x => gSt ls n (.inl (x + d)) (fun ls => K (pc + 3) ls st M))
    | .iadd => match st with
      | .inl y :: .inl x :: st => K (pc + 1) ls (.inl (x + y) :: st) M
      | _ => none
    | .isub => match st with
      | .inl y :: .inl x :: st => K (pc + 1) ls (.inl (x - y) :: st) M
      | _ => none
    | .imul => match st with
      | .inl y :: .inl x :: st => K (pc + 1) ls (.inl (x * y) :: st) M
      | _ => none
    | .idiv => match st with
      | .inl y :: .inl x :: st => cond (gEq y 0) none (K (pc + 1) ls (.inl (gDiv x y) :: st) M)
      | _ => none
    | .irem => match st with
      | .inl y :: .inl x :: st => cond (gEq y 0) none (K (pc + 1) ls (.inl (gRem x y) :: st) M)
      | _ => none
    | .iand => match st with
      | .inl y :: .inl x :: st => K (pc + 1) ls (.inl (gAnd x y) :: st) M
      | _ => none
    | .ior => match st with
      | .inl y :: .inl x :: st => K (pc + 1) ls (.inl (gOr x y) :: st) M
      | _ => none
    | .ixor => match st with
      | .inl y :: .inl x :: st => K (pc + 1) ls (.inl (gXor x y) :: st) M
      | _ => none
    | .ishl => match st with
      | .inl y :: .inl x :: st => K (pc + 1) ls (.inl (gShl x y) :: st) M
      | _ => none
    | .ishr => match st with
      | .inl y :: .inl x :: st => K (pc + 1) ls (.inl (gShr x y) :: st) M
      | _ => none
    | .i2l => match st with
      | .inl x :: st => K (pc + 1) ls (.inr (.inl (gW x)) :: st) M
      | _ => none
    | .ladd => match st with
      | .inr (.inl y) :: .inr (.inl x) :: st => K (pc + 1) ls (.inr (.inl (x + y)) :: st) M
      | _ => none
    | .lcmp => match st with
      | .inr (.inl y) :: .inr (.inl x) :: st => K (pc + 1) ls (.inl (gLc x y) :: st) M
      | _ => none
    | .dup => match st with
      | .inl x :: st => K (pc + 1) ls (.inl x :: .inl x :: st) M
      | .inr (.inr r) :: st => K (pc + 1) ls (.inr (.inr r) :: .inr (.inr r) :: st) M
      | _ => none
    | .dup2 => match st with
      | .inl x :: .inr (.inr r) :: st => K (pc + 1) ls (.inl x :: .inr (.inr r) :: .inl x :: .inr (.inr r) :: st) M
      | _ => none
    | .pop => match st with
      | .inl _ :: st => K (pc + 1) ls st M
      | _ => none
    | .goto _ => K r1 ls st M
    | .ifCond c _ => match st with
      | .inl x :: st => gBr c x 0 (K r1 ls st M) (K (pc + 3) ls st M)
      | _ => none
    | .if_icmp c _ => match st with
      | .inl y :: .inl x :: st => gBr c x y (K r1 ls st M) (K (pc + 3) ls st M)
      | _ => none
    | .tableswitch _ _ _ _ => match st with
      | .inl x :: st => gSwL x r1 (fun t => K t ls st M) tl
      | _ => none
    | .lookupswitch _ _ => match st with
      | .inl x :: st => gSwL x r1 (fun t => K t ls st M) tl
      | _ => none
    | .getfield _ => match st with
      | .inr (.inr (p + 1)) :: st => gGf Ly M p r1 r2 (fun v => K (pc + 3) ls (v :: st) M)
      | _ => none
    | .putfield _ => match st with
      | .inl v :: .inr (.inr (p + 1)) :: st => match r3 with
        | 1 => gPf Ly M p r1 r2 v (fun M => K (pc + 3) ls st M)
        | _ => gIf (gB01 v) (gPf Ly M p r1 r2 v (fun M => K (pc + 3) ls st M))
      | _ => none
    | .getstatic _ => K (pc + 3) ls (.inr (.inr (r1 + 1)) :: st) M
    | .iaload => match st with
      | .inl i :: .inr (.inr (p + 1)) :: st => gAl Ly M p i (fun v => K (pc + 1) ls (.inl v :: st) M)
      | _ => none
    | .iastore => match st with
      | .inl v :: .inl i :: .inr (.inr (p + 1)) :: st => gAs Ly M p i v (fun M => K (pc + 1) ls st M)
      | _ => none
    | .baload => match st with
      | .inl i :: .inr (.inr (p + 1)) :: st => gBl Ly M p i (fun v => K (pc + 1) ls (.inl v :: st) M)
      | _ => none
    | .bastore => match st with
      | .inl v :: .inl i :: .inr (.inr (p + 1)) :: st => gBs Ly M p i v (fun M => K (pc + 1) ls st M)
      | _ => none
    | .aaload => match st with
      | .inl i :: .inr (.inr (p + 1)) :: st => gAa Ly p i (fun r => K (pc + 1) ls (.inr (.inr (r + 1)) :: st) M)
      | _ => none
    | .arraylength => match st with
      | .inr (.inr (p + 1)) :: st => gLn Ly M p (fun v => K (pc + 1) ls (.inl v :: st) M)
      | _ => none
    | .invokevirtual _ => match st.drop r2 with
      | .inr (.inr (p + 1)) :: st1 => cond (gSm st1 && Nat.beq (Ly p).1 r3) (gRt r4 (C r1 (.inr (.inr (p + 1)) :: (st.take r2).reverse) M) (fun M st => K (pc + 3) ls st M) st1) none
      | _ => none
    | .invokestatic _ => match r3 with
      | 0 => cond (gSm (st.drop r2) && Nat.ble r2 st.length) (gRt r4 (C r1 ((st.take r2).reverse) M) (fun M st => K (pc + 3) ls st M) (st.drop r2)) none
      | 1 => match st with
        | .inl y :: .inl x :: st => cond (gSm st) (K (pc + 3) ls (.inl (gMax x y) :: st) M) none
        | _ => none
      | 2 => match st with
        | .inl y :: .inl x :: st => cond (gSm st) (K (pc + 3) ls (.inl (gMin x y) :: st) M) none
        | _ => none
      | _ => match st with
        | .inl n :: .inl dp :: .inr (.inr (p + 1)) :: .inl sp :: .inr (.inr (q + 1)) :: st => cond (gSm st) (gAc Ly M q sp p dp n (fun M => K (pc + 3) ls st M)) none
        | _ => none
    | .ireturn => match st with
      | [.inl x] => match r1 with
        | 0 => ρ M (some (.inl x))
        | _ => gIf (gB01 x) (ρ M (some (.inl x)))
      | _ => none
    | .areturn => match st with
      | [.inr (.inr (r + 1))] => ρ M (some (.inr (.inr (r + 1))))
      | _ => none
    | .return_ => match st with
      | [] => ρ M none
      | _ => none
    | _ => none
/-- from one place where the code may be cut to the next; hd: 0 where the code isn't cut; m + 1 where it is, and m locals are kept -/
def gCut (m : Nat) (ls : gL) : gL := ls.take m ++ List.replicate (ls.length - m) none
noncomputable def gSeg {α : Type} (Ly : gLy) (C : gCl) (ρ : gM → Option gV → Option α) (code : Nat → Option gE) (hd : Nat → Nat) (B : gK α) : Nat → gK α
  | 0, _, _, _, _ => none
  | F + 1, pc, ls, st, M => match code pc with
    | none => none
    | some e => gStep Ly C ρ e pc ls st M (fun pc ls st M => match hd pc with
      | 0 => gSeg Ly C ρ code hd B F pc ls st M
      | m + 1 => B pc (gCut m ls) st M)
noncomputable def gRun {α : Type} (Ly : gLy) (C : gCl) (ρ : gM → Option gV → Option α) (code : Nat → Option gE) (hd : Nat → Nat) : Nat → gK α
  | 0, _, _, _, _ => none
  | n + 1, pc, ls, st, M => gSeg Ly C ρ code hd (gRun Ly C ρ code hd n) 400 pc ls st M
/-- the locals at a method's entry -/
def gArg : List gV → gL
  | [] => []
  | .inr (.inl x) :: l => some (.inr (.inl x)) :: none :: gArg l
  | v :: l => some v :: gArg l
def gEnt (mL : Nat) (args : List gV) : gL := gArg args ++ List.replicate (mL - (gArg args).length) none
