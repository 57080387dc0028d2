section
/-! MINI MACHINE: a weakest-precondition reading of the bytecode over a small typed store. -/
/-- the store: kinds of the cells (k, n): k below 1000 an object of class k with n fields, 1000 + t an array of n elements; ints, longs, references by cell and place; cells and slots made so far -/
abbrev mj_S : Type := List (Nat × Nat) × (Nat → Nat → Int32) × (Nat → Nat → Int64) × (Nat → Nat → Option Nat) × Nat × Nat
/-- how a call ends: it returns (a value or none), or throws an exception of the class with this number -/
abbrev mj_O : Type := Option Value ⊕ Nat
abbrev mj_LV : Type := List (Option Value)
/-- pc, instruction, length, resolved numbers a b t, an int constant, a long constant, a switch's cases -/
abbrev mj_I : Type := Nat × Instr × Nat × (Nat × Nat × Nat) × Int32 × Int64 × List (Int32 × Nat)
abbrev mj_Q : Type := mj_O → mj_S → Prop
abbrev mj_N : Type := Nat → mj_LV → List Value → mj_S → mj_Q → Prop
abbrev mj_C : Type := Nat → List Value → mj_S → mj_Q → Prop
abbrev mj_K : Type := mj_LV → List Value → mj_S → Prop
/-- the script: its length and contents; the texts of the string constants; the most cells and slots -/
abbrev mj_X : Type := (Nat × (Nat → Int32)) × List (List Int32) × Nat × Nat
def mj_up {α : Type} (f : Nat → Nat → α) (a j : Nat) (v : α) : Nat → Nat → α := fun b k => if b = a then (if k = j then v else f b k) else f b k
def mj_row {α : Type} (f : Nat → Nat → α) (a : Nat) (g : Nat → α) : Nat → Nat → α := fun b k => if b = a then g k else f b k
/-- the class of the object o, the kind and length of the array o -/
def mj_ob (sh : List (Nat × Nat)) (o c : Nat) : Bool := match sh[o]? with
  | some (k, _) => k == c
  | none => false
def mj_ar (sh : List (Nat × Nat)) (o t : Nat) : Option Nat := match sh[o]? with
  | some (k, n) => if k = 1000 + t then some n else none
  | none => none
def mj_cmp (c : ClassFile.Cond) (x y : Int32) : Prop := match c with
  | .eq => x = y
  | .ne => ¬ x = y
  | .lt => x < y
  | .ge => y ≤ x
  | .gt => y < x
  | .le => x ≤ y
-- what stands on top; what a local holds; a test; an option
def mj_pI (f : Int32 → List Value → Prop) : List Value → Prop
  | .int x :: r => f x r
  | _ => False
def mj_pL (f : Int64 → List Value → Prop) : List Value → Prop
  | .long x :: r => f x r
  | _ => False
def mj_pR (f : Nat → List Value → Prop) : List Value → Prop
  | .ref x :: r => f x r
  | _ => False
def mj_pN (f : List Value → Prop) (g : Nat → List Value → Prop) : List Value → Prop
  | .null :: r => f r
  | .ref x :: r => g x r
  | _ => False
def mj_p0 (f : Prop) : List Value → Prop
  | [] => f
  | _ => False
def mj_pV (f : Value → List Value → Prop) : List Value → Prop
  | v :: r => v.category = 1 ∧ f v r
  | [] => False
def mj_gI (f : Int32 → Prop) : Option Value → Prop
  | some (.int x) => f x
  | _ => False
def mj_gL (f : Int64 → Prop) : Option Value → Prop
  | some (.long x) => f x
  | _ => False
def mj_gA (f : Value → Prop) : Option Value → Prop
  | some (.ref x) => f (.ref x)
  | some .null => f .null
  | _ => False
def mj_tt (f : Prop) : Bool → Prop
  | true => f
  | false => False
def mj_so {α : Type} (f : α → Prop) : Option α → Prop
  | some x => f x
  | none => False
def mj_br (c : Prop) (f g : Prop) : Prop := (c → f) ∧ (¬ c → g)
def mj_sw (nx : Nat → Prop) (d : Nat) (x : Int32) : List (Int32 × Nat) → Prop
  | [] => nx d
  | (k, t) :: r => mj_br (x = k) (nx t) (mj_sw nx d x r)
/-- the uppermost n values, the deepest first, and the rest -/
def mj_tk : Nat → List Value → List Value → Option (List Value × List Value)
  | 0, acc, st => some (acc, st)
  | _ + 1, _, [] => none
  | n + 1, acc, v :: st => mj_tk n (v :: acc) st
def mj_c2 : Option Value → Bool
  | some (.long _) => true
  | _ => false
/-- a store to a local: a long that stood at i - 1 is gone; behind a long nothing stands -/
def mj_st (lv : mj_LV) (i : Nat) (v : Value) : mj_LV := match i with
  | 0 => lv.set 0 (some v)
  | j + 1 => if mj_c2 (lv.getD j none) then (lv.set j none).set (j + 1) (some v) else lv.set (j + 1) (some v)
def mj_st2 (lv : mj_LV) (i : Nat) (v : Int64) : mj_LV := (mj_st lv i (.long v)).set (i + 1) none
/-- where an exception thrown at pc goes: the local that takes it, the pc behind that store -/
abbrev mj_H : Type := Nat → Nat → Option (Nat × Nat)
/-- what comes behind a call -/
def mj_ret (hd : mj_H) (nx : mj_N) (pc : Nat) (K : mj_K) (lv : mj_LV) (rest : List Value) (Q : mj_Q) : mj_O → mj_S → Prop
  | .inl none, S => K lv rest S
  | .inl (some v), S => K lv (v :: rest) S
  | .inr x, S => match hd pc x with
    | some (i, h) => nx h (lv.set i none) [] S Q
    | none => Q (.inr x) S
/-- a new cell of kind k with n places -/
def mj_new (X : mj_X) (K : Nat → mj_S → Prop) (k n : Nat) (S : mj_S) : Prop :=
  (S.2.2.2.2.1 + 1 ≤ X.2.2.1 ∧ S.2.2.2.2.2 + n ≤ X.2.2.2) ∧
  K S.1.length (S.1 ++ [(k, n)], mj_row S.2.1 S.1.length (fun _ => 0), mj_row S.2.2.1 S.1.length (fun _ => 0), mj_row S.2.2.2.1 S.1.length (fun _ => none), S.2.2.2.2.1 + 1, S.2.2.2.2.2 + n)
def mj_ald (K : mj_K) (t : Nat) (lv : mj_LV) (st : List Value) (S : mj_S) : Prop :=
  mj_pI (fun k r => mj_pR (fun o r => mj_so (fun n => vp_in k n ∧ K lv (.int (S.2.1 o k.toNatClampNeg) :: r) S) (mj_ar S.1 o t)) r) st
def mj_ast (K : mj_K) (nar : Int32 → Int32) (t : Nat) (lv : mj_LV) (st : List Value) (S : mj_S) : Prop :=
  mj_pI (fun v r => mj_pI (fun k r => mj_pR (fun o r => mj_so (fun n => vp_in k n ∧ K lv r (S.1, mj_up S.2.1 o k.toNatClampNeg (nar v), S.2.2)) (mj_ar S.1 o t)) r) r) st
/-- one instruction; K: what must hold behind it -/
def mj_in (X : mj_X) (hd : mj_H) (cl : mj_C) (nx : mj_N) (Q : mj_Q) (x : mj_I) (K : mj_K) (lv : mj_LV) (st : List Value) (S : mj_S) : Prop :=
  match x.2.1 with
  | .iconst _ => K lv (.int x.2.2.2.2.1 :: st) S
  | .bipush _ => K lv (.int x.2.2.2.2.1 :: st) S
  | .sipush _ => K lv (.int x.2.2.2.2.1 :: st) S
  | .ldc _ => match x.2.2.2.1.2.2 with
    | 0 => K lv (.int x.2.2.2.2.1 :: st) S
    | _ => K lv (.ref x.2.2.2.1.1 :: st) S
  | .lconst _ => K lv (.long x.2.2.2.2.2.1 :: st) S
  | .ldc2_w _ => K lv (.long x.2.2.2.2.2.1 :: st) S
  | .iload _ => mj_gI (fun v => K lv (.int v :: st) S) (lv.getD x.2.2.2.1.1 none)
  | .iload_n _ => mj_gI (fun v => K lv (.int v :: st) S) (lv.getD x.2.2.2.1.1 none)
  | .lload _ => mj_gL (fun v => K lv (.long v :: st) S) (lv.getD x.2.2.2.1.1 none)
  | .lload_n _ => mj_gL (fun v => K lv (.long v :: st) S) (lv.getD x.2.2.2.1.1 none)
  | .aload _ => mj_gA (fun v => K lv (v :: st) S) (lv.getD x.2.2.2.1.1 none)
  | .aload_n _ => mj_gA (fun v => K lv (v :: st) S) (lv.getD x.2.2.2.1.1 none)
  | .istore _ => mj_pI (fun v r => K (mj_st lv x.2.2.2.1.1 (.int v)) r S) st
  | .istore_n _ => mj_pI (fun v r => K (mj_st lv x.2.2.2.1.1 (.int v)) r S) st
  | .lstore _ => mj_pL (fun v r => K (mj_st2 lv x.2.2.2.1.1 v) r S) st
  | .lstore_n _ => mj_pL (fun v r => K (mj_st2 lv x.2.2.2.1.1 v) r S) st
  | .astore _ => mj_pR (fun v r => K (mj_st lv x.2.2.2.1.1 (.ref v)) r S) st
  | .astore_n _ => mj_pR (fun v r => K (mj_st lv x.2.2.2.1.1 (.ref v)) r S) st
  | .iinc _ _ => mj_gI (fun v => K (mj_st lv x.2.2.2.1.1 (.int (v + x.2.2.2.2.1))) st S) (lv.getD x.2.2.2.1.1 none)
  | .iadd => mj_pI (fun b r => mj_pI (fun a r => K lv (.int (a + b) :: r) S) r) st
  | .isub => mj_pI (fun b r => mj_pI (fun a r => K lv (.int (a - b) :: r) S) r) st
  | .imul => mj_pI (fun b r => mj_pI (fun a r => K lv (.int (a * b) :: r) S) r) st
  | .iand => mj_pI (fun b r => mj_pI (fun a r => K lv (.int (a &&& b) :: r) S) r) st
  | .ior => mj_pI (fun b r => mj_pI (fun a r => K lv (.int (a ||| b) :: r) S) r) st
  | .ixor => mj_pI (fun b r => mj_pI (fun a r => K lv (.int (a ^^^ b) :: r) S) r) st
  | .ishl => mj_pI (fun b r => mj_pI (fun a r => K lv (.int (a <<< (b &&& 31)) :: r) S) r) st
  | .ishr => mj_pI (fun b r => mj_pI (fun a r => K lv (.int (a >>> (b &&& 31)) :: r) S) r) st
  | .ineg => mj_pI (fun a r => K lv (.int (-a) :: r) S) st
  | .i2c => mj_pI (fun a r => K lv (.int (a.toUInt32 % 65536).toInt32 :: r) S) st
  | .i2b => mj_pI (fun a r => K lv (.int a.toInt8.toInt32 :: r) S) st
  | .idiv => mj_pI (fun b r => mj_pI (fun a r => ¬ b = 0 ∧ K lv (.int (a / b) :: r) S) r) st
  | .irem => mj_pI (fun b r => mj_pI (fun a r => ¬ b = 0 ∧ K lv (.int (a - a / b * b) :: r) S) r) st
  | .ladd => mj_pL (fun b r => mj_pL (fun a r => K lv (.long (a + b) :: r) S) r) st
  | .lsub => mj_pL (fun b r => mj_pL (fun a r => K lv (.long (a - b) :: r) S) r) st
  | .lmul => mj_pL (fun b r => mj_pL (fun a r => K lv (.long (a * b) :: r) S) r) st
  | .land => mj_pL (fun b r => mj_pL (fun a r => K lv (.long (a &&& b) :: r) S) r) st
  | .lor => mj_pL (fun b r => mj_pL (fun a r => K lv (.long (a ||| b) :: r) S) r) st
  | .lneg => mj_pL (fun a r => K lv (.long (-a) :: r) S) st
  | .ldiv => mj_pL (fun b r => mj_pL (fun a r => ¬ b = 0 ∧ K lv (.long (a / b) :: r) S) r) st
  | .lrem => mj_pL (fun b r => mj_pL (fun a r => ¬ b = 0 ∧ K lv (.long (a - a / b * b) :: r) S) r) st
  | .lushr => mj_pI (fun b r => mj_pL (fun a r => K lv (.long (a.toUInt64 >>> (b.toInt64.toUInt64 &&& Int64.toUInt64 63)).toInt64 :: r) S) r) st
  | .lshl => mj_pI (fun b r => mj_pL (fun a r => K lv (.long (a <<< (b.toInt64 &&& 63)) :: r) S) r) st
  | .lshr => mj_pI (fun b r => mj_pL (fun a r => K lv (.long (a >>> (b.toInt64 &&& 63)) :: r) S) r) st
  | .lcmp => mj_pL (fun b r => mj_pL (fun a r => K lv (.int (lg_cmp a b) :: r) S) r) st
  | .i2l => mj_pI (fun a r => K lv (.long a.toInt64 :: r) S) st
  | .l2i => mj_pL (fun a r => K lv (.int a.toInt32 :: r) S) st
  | .dup => mj_pV (fun v r => K lv (v :: v :: r) S) st
  | .pop => mj_pV (fun _ r => K lv r S) st
  | .ifCond c _ => mj_pI (fun a r => mj_br (mj_cmp c a 0) (nx x.2.2.2.1.1 lv r S Q) (K lv r S)) st
  | .if_icmp c _ => mj_pI (fun b r => mj_pI (fun a r => mj_br (mj_cmp c a b) (nx x.2.2.2.1.1 lv r S Q) (K lv r S)) r) st
  | .goto _ => nx x.2.2.2.1.1 lv st S Q
  | .tableswitch _ _ _ _ => mj_pI (fun a r => mj_sw (fun t => nx t lv r S Q) x.2.2.2.1.1 a x.2.2.2.2.2.2) st
  | .lookupswitch _ _ => mj_pI (fun a r => mj_sw (fun t => nx t lv r S Q) x.2.2.2.1.1 a x.2.2.2.2.2.2) st
  | .iaload => match x.2.2.2.1.2.2 with
    | 0 => mj_ald K 0 lv st S
    | _ => mj_pI (fun k r => mj_pR (fun o r => o = 900000 ∧ vp_in k X.1.1 ∧ K lv (.int (X.1.2 k.toNatClampNeg) :: r) S) r) st
  | .caload => mj_ald K 2 lv st S
  | .baload => match x.2.2.2.1.2.2 with
    | 3 => mj_ald K 3 lv st S
    | _ => mj_ald K 4 lv st S
  | .laload => mj_pI (fun k r => mj_pR (fun o r => mj_so (fun n => vp_in k n ∧ K lv (.long (S.2.2.1 o k.toNatClampNeg) :: r) S) (mj_ar S.1 o 1)) r) st
  | .iastore => mj_ast K (fun v => v) 0 lv st S
  | .castore => mj_ast K (fun v => vp_nar .char v) 2 lv st S
  | .bastore => match x.2.2.2.1.2.2 with
    | 3 => mj_ast K (fun v => vp_nar .boolean v) 3 lv st S
    | _ => mj_ast K (fun v => vp_nar .byte v) 4 lv st S
  | .lastore => mj_pL (fun v r => mj_pI (fun k r => mj_pR (fun o r => mj_so (fun n => vp_in k n ∧ K lv r (S.1, S.2.1, mj_up S.2.2.1 o k.toNatClampNeg v, S.2.2.2)) (mj_ar S.1 o 1)) r) r) st
  | .arraylength => match x.2.2.2.1.2.2 with
    | 0 => mj_pR (fun o r => mj_so (fun n => K lv (.int (Int32.ofNat n) :: r) S) (mj_ar S.1 o 0)) st
    | _ => mj_pR (fun o r => o = 900000 ∧ K lv (.int (Int32.ofNat X.1.1) :: r) S) st
  | .getfield _ => mj_pR (fun o r => mj_tt (match x.2.2.2.1.2.2 with
    | 0 => K lv (.int (S.2.1 o x.2.2.2.1.2.1) :: r) S
    | _ => mj_so (fun q => K lv (.ref q :: r) S) (S.2.2.2.1 o x.2.2.2.1.2.1)) (mj_ob S.1 o x.2.2.2.1.1)) st
  | .putfield _ => match x.2.2.2.1.2.2 with
    | 0 => mj_pI (fun v r => mj_pR (fun o r => mj_tt (K lv r (S.1, mj_up S.2.1 o x.2.2.2.1.2.1 v, S.2.2)) (mj_ob S.1 o x.2.2.2.1.1)) r) st
    | 2 => mj_pR (fun v r => mj_pR (fun o r => mj_tt (K lv r (S.1, S.2.1, S.2.2.1, mj_up S.2.2.2.1 o x.2.2.2.1.2.1 (some v), S.2.2.2.2)) (mj_ob S.1 o x.2.2.2.1.1)) r) st
    | _ => mj_pI (fun v r => mj_pR (fun o r => mj_tt ((v = 0 ∨ v = 1) ∧ K lv r (S.1, mj_up S.2.1 o x.2.2.2.1.2.1 v, S.2.2)) (mj_ob S.1 o x.2.2.2.1.1)) r) st
  | .new _ => match x.2.2.2.1.2.2 with
    | 0 => mj_new X (fun q S' => K lv (.ref q :: st) S') x.2.2.2.1.1 x.2.2.2.1.2.1 S
    | _ => (S.2.2.2.2.1 + 1 ≤ X.2.2.1 ∧ S.2.2.2.2.2 + 6 ≤ X.2.2.2) ∧ Q (.inr x.2.2.2.1.1) (S.1, S.2.1, S.2.2.1, S.2.2.2.1, S.2.2.2.2.1 + 1, S.2.2.2.2.2 + 6)
  | .newarray _ => mj_pI (fun n r => ¬ n < 0 ∧ mj_new X (fun q S' => K lv (.ref q :: r) S') (1000 + x.2.2.2.1.2.2) n.toNatClampNeg S) st
  | .invokestatic _ => mj_so (fun z => cl x.2.2.2.1.1 z.1 S (mj_ret hd nx x.1 K lv z.2 Q)) (mj_tk x.2.2.2.1.2.1 [] st)
  | .invokevirtual _ => mj_so (fun z => cl x.2.2.2.1.1 z.1 S (mj_ret hd nx x.1 K lv z.2 Q)) (mj_tk x.2.2.2.1.2.1 [] st)
  | .invokespecial _ => match x.2.2.2.1.2.2 with
    | 0 => mj_so (fun z => cl x.2.2.2.1.1 z.1 S (mj_ret hd nx x.1 K lv z.2 Q)) (mj_tk x.2.2.2.1.2.1 [] st)
    | _ => mj_pR (fun _ r => K lv r S) st
  | .checkcast _ => K lv st S
  | .ireturn => mj_pI (fun v r => mj_p0 (match x.2.2.2.1.2.2 with
    | 0 => Q (.inl (some (.int v))) S
    | _ => (v = 0 ∨ v = 1) ∧ Q (.inl (some (.int v))) S) r) st
  | .return_ => mj_p0 (Q (.inl none) S) st
  | _ => False
/-- a row of instructions; it goes on at e behind the last one -/
def mj_rb (X : mj_X) (hd : mj_H) (cl : mj_C) (nx : mj_N) (Q : mj_Q) (e : Nat) : List mj_I → mj_K
  | [] => fun lv st S => nx e lv st S Q
  | x :: is => mj_in X hd cl nx Q x (mj_rb X hd cl nx Q e is)
/-- the locals that are still read -/
def mj_mk : List Bool → mj_LV → mj_LV
  | b :: bs, v :: vs => (if b then v else none) :: mj_mk bs vs
  | _, _ => []
/-- a block: its pc, the locals that are live there, its instructions, the pc behind them -/
abbrev mj_B : Type := Nat × List Bool × List mj_I × Nat
def mj_bk : List mj_B → Nat → Option mj_B
  | [], _ => none
  | b :: r, pc => if b.1 = pc then some b else mj_bk r pc
def mj_at (X : mj_X) (hd : mj_H) (cl : mj_C) (T : List mj_B) (nx : mj_N) (pc : Nat) (lv : mj_LV) (st : List Value) (S : mj_S) (Q : mj_Q) : Prop :=
  mj_so (fun b => mj_rb X hd cl nx Q b.2.2.2 b.2.2.1 (mj_mk b.2.1 lv) st S) (mj_bk T pc)
/-- from this pc on the method ends, with Q: the least such -/
def mj_rn (X : mj_X) (hd : mj_H) (cl : mj_C) (T : List mj_B) : mj_N := fun pc lv st S Q => ∀ P : mj_N, (∀ pc lv st S Q, mj_at X hd cl T P pc lv st S Q → P pc lv st S Q) → P pc lv st S Q
def mj_en : List Value → mj_LV
  | [] => []
  | .long x :: r => some (.long x) :: none :: mj_en r
  | v :: r => some v :: mj_en r
/-- a method: how many locals, its handlers (from, to, handler, class, the local, the pc behind the store), its blocks -/
abbrev mj_M : Type := Nat × List (Nat × Nat × Nat × Nat × Nat × Nat) × List mj_B
def mj_hd : List (Nat × Nat × Nat × Nat × Nat × Nat) → mj_H
  | [], _, _ => none
  | (f, t, _, c, i, h) :: r, pc, x => if f ≤ pc ∧ pc < t ∧ c = x then some (i, h) else mj_hd r pc x
def mj_call (X : mj_X) (P : List mj_M) (bi : mj_C) : Nat → mj_C
  | 0, _, _, _, _ => False
  | d + 1, M, as, S, Q => if 900 ≤ M then bi M as S Q else
    mj_so (fun z => mj_rn X (mj_hd z.2.1) (mj_call X P bi d) z.2.2 0 (mj_en as ++ List.replicate (z.1 - (mj_en as).length) none) [] S Q) P[M]?
end
section
/-! MINI MACHINE: every reading ends in one way; what it says may be weakened -/
def mj_Mono (cl : mj_C) : Prop := ∀ (M : Nat) (as : List Value) (S : mj_S) (Q Q' : mj_Q), (∀ o S', Q o S' → Q' o S') → cl M as S Q → cl M as S Q'
def mj_Ex (cl : mj_C) : Prop := ∀ (M : Nat) (as : List Value) (S : mj_S) (Q : mj_Q), cl M as S Q → ∃ (o : mj_O) (S' : mj_S), cl M as S (fun a b => a = o ∧ b = S') ∧ Q o S'
section MJEX
variable {Z : Type} {P : Z → Prop}
theorem mj_pI_ex {f : Int32 → List Value → Prop} {g : Z → Int32 → List Value → Prop} (h : ∀ x r, f x r → ∃ z, g z x r ∧ P z) : ∀ {st : List Value}, mj_pI f st → ∃ z, mj_pI (g z) st ∧ P z
  | .int x :: r, q => h x r q
theorem mj_pL_ex {f : Int64 → List Value → Prop} {g : Z → Int64 → List Value → Prop} (h : ∀ x r, f x r → ∃ z, g z x r ∧ P z) : ∀ {st : List Value}, mj_pL f st → ∃ z, mj_pL (g z) st ∧ P z
  | .long x :: r, q => h x r q
theorem mj_pR_ex {f : Nat → List Value → Prop} {g : Z → Nat → List Value → Prop} (h : ∀ x r, f x r → ∃ z, g z x r ∧ P z) : ∀ {st : List Value}, mj_pR f st → ∃ z, mj_pR (g z) st ∧ P z
  | .ref x :: r, q => h x r q
theorem mj_pV_ex {f : Value → List Value → Prop} {g : Z → Value → List Value → Prop} (h : ∀ x r, f x r → ∃ z, g z x r ∧ P z) : ∀ {st : List Value}, mj_pV f st → ∃ z, mj_pV (g z) st ∧ P z
  | v :: r, q => (h v r q.2).imp fun _ w => ⟨⟨q.1, w.1⟩, w.2⟩
theorem mj_p0_ex {f : Prop} {g : Z → Prop} (h : f → ∃ z, g z ∧ P z) : ∀ {st : List Value}, mj_p0 f st → ∃ z, mj_p0 (g z) st ∧ P z
  | [], q => h q
theorem mj_gI_ex {f : Int32 → Prop} {g : Z → Int32 → Prop} (h : ∀ x, f x → ∃ z, g z x ∧ P z) : ∀ {v : Option Value}, mj_gI f v → ∃ z, mj_gI (g z) v ∧ P z
  | some (.int x), q => h x q
theorem mj_gL_ex {f : Int64 → Prop} {g : Z → Int64 → Prop} (h : ∀ x, f x → ∃ z, g z x ∧ P z) : ∀ {v : Option Value}, mj_gL f v → ∃ z, mj_gL (g z) v ∧ P z
  | some (.long x), q => h x q
theorem mj_gA_ex {f : Value → Prop} {g : Z → Value → Prop} (h : ∀ x, f x → ∃ z, g z x ∧ P z) : ∀ {v : Option Value}, mj_gA f v → ∃ z, mj_gA (g z) v ∧ P z
  | some (.ref x), q => h _ q
  | some .null, q => h _ q
theorem mj_tt_ex {f : Prop} {g : Z → Prop} (h : f → ∃ z, g z ∧ P z) : ∀ {b : Bool}, mj_tt f b → ∃ z, mj_tt (g z) b ∧ P z
  | true, q => h q
theorem mj_so_ex {α : Type} {f : α → Prop} {g : Z → α → Prop} (h : ∀ x, f x → ∃ z, g z x ∧ P z) : ∀ {b : Option α}, mj_so f b → ∃ z, mj_so (g z) b ∧ P z
  | some x, q => h x q
theorem mj_an_ex {c f : Prop} {g : Z → Prop} (h : f → ∃ z, g z ∧ P z) (q : c ∧ f) : ∃ z, (c ∧ g z) ∧ P z := (h q.2).imp fun _ w => ⟨⟨q.1, w.1⟩, w.2⟩
theorem mj_br_ex {c f1 f2 : Prop} {g1 g2 : Z → Prop} (h1 : f1 → ∃ z, g1 z ∧ P z) (h2 : f2 → ∃ z, g2 z ∧ P z) (q : mj_br c f1 f2) : ∃ z, mj_br c (g1 z) (g2 z) ∧ P z := by
  by_cases hc : c
  · obtain ⟨z, w1, w2⟩ := h1 (q.1 hc)
    exact ⟨z, ⟨fun _ => w1, fun n => absurd hc n⟩, w2⟩
  · obtain ⟨z, w1, w2⟩ := h2 (q.2 hc)
    exact ⟨z, ⟨fun n => absurd n hc, fun _ => w1⟩, w2⟩
theorem mj_sw_ex {nx : Nat → Prop} {nx' : Z → Nat → Prop} (h : ∀ t, nx t → ∃ z, nx' z t ∧ P z) (d : Nat) (x : Int32) : ∀ sw : List (Int32 × Nat), mj_sw nx d x sw → ∃ z, mj_sw (nx' z) d x sw ∧ P z
  | [], q => h _ q
  | (_, _) :: r, q => mj_br_ex (h _) (mj_sw_ex h d x r) q
theorem mj_new_ex {X : mj_X} {K : Nat → mj_S → Prop} {K' : Z → Nat → mj_S → Prop} (h : ∀ q S, K q S → ∃ z, K' z q S ∧ P z) {k n : Nat} {S : mj_S} (q : mj_new X K k n S) : ∃ z, mj_new X (K' z) k n S ∧ P z := mj_an_ex (h _ _) q
theorem mj_ald_ex {K : mj_K} {K' : Z → mj_K} (h : ∀ lv st S, K lv st S → ∃ z, K' z lv st S ∧ P z) {t : Nat} {lv : mj_LV} {st : List Value} {S : mj_S} (q : mj_ald K t lv st S) : ∃ z, mj_ald (K' z) t lv st S ∧ P z :=
  mj_pI_ex (fun _ _ => mj_pR_ex fun _ _ => mj_so_ex fun _ => mj_an_ex (h _ _ _)) q
theorem mj_ast_ex {K : mj_K} {K' : Z → mj_K} (h : ∀ lv st S, K lv st S → ∃ z, K' z lv st S ∧ P z) {nar : Int32 → Int32} {t : Nat} {lv : mj_LV} {st : List Value} {S : mj_S} (q : mj_ast K nar t lv st S) : ∃ z, mj_ast (K' z) nar t lv st S ∧ P z :=
  mj_pI_ex (fun _ _ => mj_pI_ex fun _ _ => mj_pR_ex fun _ _ => mj_so_ex fun _ => mj_an_ex (h _ _ _)) q
theorem mj_ret_ex {hd : mj_H} {nx nx' : mj_N} {Q : mj_Q} {Q' : Z → mj_Q} {K : mj_K} {K' : Z → mj_K} (hn : ∀ pc lv st S, nx pc lv st S Q → ∃ z, nx' pc lv st S (Q' z) ∧ P z) (hQ : ∀ o S, Q o S → ∃ z, Q' z o S ∧ P z) (hK : ∀ lv st S, K lv st S → ∃ z, K' z lv st S ∧ P z)
    {pc : Nat} {lv : mj_LV} {rest : List Value} : ∀ {o : mj_O} {S : mj_S}, mj_ret hd nx pc K lv rest Q o S → ∃ z, mj_ret hd nx' pc (K' z) lv rest (Q' z) o S ∧ P z
  | .inl none, S, q => hK _ _ _ q
  | .inl (some v), S, q => hK _ _ _ q
  | .inr x, S, q => by
    cases hx : hd pc x with
    | none =>
      simp only [mj_ret, hx] at q ⊢
      exact hQ _ _ q
    | some z =>
      simp only [mj_ret, hx] at q ⊢
      exact hn _ _ _ _ q
theorem mj_cl_ex {cl : mj_C} (hm : mj_Mono cl) (he : mj_Ex cl) {M : Nat} {as : List Value} {S : mj_S} {R : mj_Q} {R' : Z → mj_Q} (h : ∀ o S', R o S' → ∃ z, R' z o S' ∧ P z) (q : cl M as S R) : ∃ z, cl M as S (R' z) ∧ P z := by
  obtain ⟨o, S', h1, h2⟩ := he M as S R q
  obtain ⟨z, w1, w2⟩ := h o S' h2
  exact ⟨z, hm M as S _ _ (fun a b e => by rw [e.1, e.2]; exact w1) h1, w2⟩
set_option maxHeartbeats 4000000 in
theorem mj_in_ex {X : mj_X} {hd : mj_H} {cl : mj_C} (hm : mj_Mono cl) (he : mj_Ex cl) {nx nx' : mj_N} {Q : mj_Q} {Q' : Z → mj_Q} {K : mj_K} {K' : Z → mj_K} (hn : ∀ pc lv st S, nx pc lv st S Q → ∃ z, nx' pc lv st S (Q' z) ∧ P z) (hQ : ∀ o S, Q o S → ∃ z, Q' z o S ∧ P z) (hK : ∀ lv st S, K lv st S → ∃ z, K' z lv st S ∧ P z)
    (x : mj_I) (lv : mj_LV) (st : List Value) (S : mj_S) (h : mj_in X hd cl nx Q x K lv st S) : ∃ z, mj_in X hd cl nx' (Q' z) x (K' z) lv st S ∧ P z := by
  obtain ⟨pc, i, len, ⟨a, b, t⟩, k, kl, sw⟩ := x
  unfold mj_in at h ⊢
  cases i
  all_goals dsimp only at h ⊢
  all_goals try exact h.elim
  all_goals try exact hK _ _ _ h
  all_goals try exact hn _ _ _ _ h
  all_goals try exact mj_pI_ex (fun _ _ => hK _ _ _) h
  all_goals try exact mj_pI_ex (fun _ _ => mj_pI_ex fun _ _ => hK _ _ _) h
  all_goals try exact mj_pI_ex (fun _ _ => mj_pI_ex fun _ _ => mj_an_ex (hK _ _ _)) h
  all_goals try exact mj_pI_ex (fun _ _ => mj_pL_ex fun _ _ => hK _ _ _) h
  all_goals try exact mj_pL_ex (fun _ _ => hK _ _ _) h
  all_goals try exact mj_pL_ex (fun _ _ => mj_pL_ex fun _ _ => hK _ _ _) h
  all_goals try exact mj_pL_ex (fun _ _ => mj_pL_ex fun _ _ => mj_an_ex (hK _ _ _)) h
  all_goals try exact mj_pR_ex (fun _ _ => hK _ _ _) h
  all_goals try exact mj_pV_ex (fun _ _ => hK _ _ _) h
  all_goals try exact mj_gI_ex (fun _ => hK _ _ _) h
  all_goals try exact mj_gL_ex (fun _ => hK _ _ _) h
  all_goals try exact mj_gA_ex (fun _ => hK _ _ _) h
  all_goals try exact mj_ald_ex hK h
  all_goals try exact mj_ast_ex hK h
  all_goals try exact mj_pI_ex (fun _ _ => mj_pI_ex fun _ _ => mj_br_ex (hn _ _ _ _) (hK _ _ _)) h
  all_goals try exact mj_pI_ex (fun _ _ => mj_br_ex (hn _ _ _ _) (hK _ _ _)) h
  all_goals try exact mj_pI_ex (fun _ _ => mj_sw_ex (fun _ => hn _ _ _ _) _ _ _) h
  all_goals try exact mj_so_ex (fun _ => mj_cl_ex hm he (fun _ _ => mj_ret_ex hn hQ hK)) h
  all_goals try exact mj_pI_ex (fun _ _ => mj_pR_ex fun _ _ => mj_so_ex fun _ => mj_an_ex (hK _ _ _)) h
  all_goals try exact mj_pL_ex (fun _ _ => mj_pI_ex fun _ _ => mj_pR_ex fun _ _ => mj_so_ex fun _ => mj_an_ex (hK _ _ _)) h
  all_goals try exact mj_p0_ex (hQ _ _) h
  all_goals try exact mj_pI_ex (fun _ _ => mj_an_ex (mj_new_ex fun _ _ => hK _ _ _)) h
  all_goals try (split at h)
  all_goals try exact hK _ _ _ h
  all_goals try exact mj_ald_ex hK h
  all_goals try exact mj_ast_ex hK h
  all_goals try exact mj_pI_ex (fun _ _ => mj_pR_ex fun _ _ => mj_an_ex (mj_an_ex (hK _ _ _))) h
  all_goals try exact mj_pR_ex (fun _ _ => mj_so_ex fun _ => hK _ _ _) h
  all_goals try exact mj_pR_ex (fun _ _ => mj_an_ex (hK _ _ _)) h
  all_goals try exact mj_pR_ex (fun _ _ => mj_tt_ex (hK _ _ _)) h
  all_goals try exact mj_pR_ex (fun _ _ => mj_tt_ex (mj_so_ex fun _ => hK _ _ _)) h
  all_goals try exact mj_pI_ex (fun _ _ => mj_pR_ex fun _ _ => mj_tt_ex (hK _ _ _)) h
  all_goals try exact mj_pR_ex (fun _ _ => mj_pR_ex fun _ _ => mj_tt_ex (hK _ _ _)) h
  all_goals try exact mj_pI_ex (fun _ _ => mj_pR_ex fun _ _ => mj_tt_ex (mj_an_ex (hK _ _ _))) h
  all_goals try exact mj_new_ex (fun _ _ => hK _ _ _) h
  all_goals try exact mj_an_ex (hQ _ _) h
  all_goals try exact mj_so_ex (fun _ => mj_cl_ex hm he (fun _ _ => mj_ret_ex hn hQ hK)) h
  all_goals try exact mj_pR_ex (fun _ _ => hK _ _ _) h
  all_goals try exact mj_pI_ex (fun _ _ => mj_p0_ex (hQ _ _)) h
  all_goals try exact mj_pI_ex (fun _ _ => mj_p0_ex (mj_an_ex (hQ _ _))) h
end MJEX
end
section
/-! MINI MACHINE: the fixed point, and calls -/
section MJFX
variable {X : mj_X} {hd : mj_H} {cl : mj_C} {T : List mj_B}
theorem mj_rb_ex {Z : Type} {P : Z → Prop} (hm : mj_Mono cl) (he : mj_Ex cl) {nx nx' : mj_N} {Q : mj_Q} {Q' : Z → mj_Q} (hn : ∀ pc lv st S, nx pc lv st S Q → ∃ z, nx' pc lv st S (Q' z) ∧ P z) (hQ : ∀ o S, Q o S → ∃ z, Q' z o S ∧ P z) (e : Nat) :
    ∀ (is : List mj_I) (lv : mj_LV) (st : List Value) (S : mj_S), mj_rb X hd cl nx Q e is lv st S → ∃ z, mj_rb X hd cl nx' (Q' z) e is lv st S ∧ P z
  | [], _, _, _, h => hn _ _ _ _ h
  | x :: is, lv, st, S, h => mj_in_ex (K' := fun z => mj_rb X hd cl nx' (Q' z) e is) hm he hn hQ (mj_rb_ex hm he hn hQ e is) x lv st S h
theorem mj_at_ex {Z : Type} {P : Z → Prop} (hm : mj_Mono cl) (he : mj_Ex cl) {nx nx' : mj_N} {Q : mj_Q} {Q' : Z → mj_Q} (hn : ∀ pc lv st S, nx pc lv st S Q → ∃ z, nx' pc lv st S (Q' z) ∧ P z) (hQ : ∀ o S, Q o S → ∃ z, Q' z o S ∧ P z) {pc : Nat} {lv : mj_LV} {st : List Value} {S : mj_S} (h : mj_at X hd cl T nx pc lv st S Q) : ∃ z, mj_at X hd cl T nx' pc lv st S (Q' z) ∧ P z := by
  unfold mj_at at h ⊢
  exact mj_so_ex (g := fun z (b : mj_B) => mj_rb X hd cl nx' (Q' z) b.2.2.2 b.2.2.1 (mj_mk b.2.1 lv) st S) (fun b q => mj_rb_ex hm he hn hQ b.2.2.2 b.2.2.1 _ _ _ q) h
/-- the fixed point, unfolded once -/
theorem mj_rn_in (hm : mj_Mono cl) (he : mj_Ex cl) {pc : Nat} {lv : mj_LV} {st : List Value} {S : mj_S} {Q : mj_Q} (h : mj_at X hd cl T (mj_rn X hd cl T) pc lv st S Q) : mj_rn X hd cl T pc lv st S Q := by
  intro P hP
  refine hP _ _ _ _ _ ?_
  obtain ⟨-, w, -⟩ := mj_at_ex (Z := Unit) (P := fun _ => True) (nx' := P) (Q' := fun _ => Q) hm he (fun pc lv st S q => ⟨(), q P hP, trivial⟩) (fun _ _ q => ⟨(), q, trivial⟩) h
  exact w
theorem mj_rn_ex (hm : mj_Mono cl) (he : mj_Ex cl) {pc : Nat} {lv : mj_LV} {st : List Value} {S : mj_S} {Q : mj_Q} (h : mj_rn X hd cl T pc lv st S Q) : ∃ (o : mj_O) (S' : mj_S), mj_rn X hd cl T pc lv st S (fun a b => a = o ∧ b = S') ∧ Q o S' := by
  refine h (fun pc lv st S Q => ∃ (o : mj_O) (S' : mj_S), mj_rn X hd cl T pc lv st S (fun a b => a = o ∧ b = S') ∧ Q o S') ?_
  intro pc lv st S Q q
  obtain ⟨⟨o, S'⟩, w1, w2⟩ := mj_at_ex (Z := mj_O × mj_S) (P := fun z => Q z.1 z.2) (nx' := mj_rn X hd cl T) (Q' := fun z a b => a = z.1 ∧ b = z.2) hm he (fun pc lv st S q => by obtain ⟨o, S', q1, q2⟩ := q; exact ⟨(o, S'), q1, q2⟩) (fun o S q => ⟨(o, S), ⟨rfl, rfl⟩, q⟩) q
  exact ⟨o, S', mj_rn_in hm he w1, w2⟩
theorem mj_rn_mono (hm : mj_Mono cl) (he : mj_Ex cl) {pc : Nat} {lv : mj_LV} {st : List Value} {S : mj_S} {Q Q' : mj_Q} (hQ : ∀ o S, Q o S → Q' o S) (h : mj_rn X hd cl T pc lv st S Q) : mj_rn X hd cl T pc lv st S Q' := by
  refine h (fun pc lv st S Q => ∀ Q' : mj_Q, (∀ o S, Q o S → Q' o S) → mj_rn X hd cl T pc lv st S Q') ?_ Q' hQ
  intro pc lv st S Q q Q' hQ
  obtain ⟨-, w, -⟩ := mj_at_ex (Z := Unit) (P := fun _ => True) (nx' := mj_rn X hd cl T) (Q' := fun _ => Q') hm he (fun pc lv st S q => ⟨(), q Q' hQ, trivial⟩) (fun _ _ q => ⟨(), hQ _ _ q, trivial⟩) q
  exact mj_rn_in hm he w
end MJFX
section MJCL
variable {X : mj_X} {P : List mj_M} {bi : mj_C}
theorem mj_call_ok (hm : mj_Mono bi) (he : mj_Ex bi) : ∀ d : Nat, mj_Mono (mj_call X P bi d) ∧ mj_Ex (mj_call X P bi d)
  | 0 => ⟨fun _ _ _ _ _ _ h => h.elim, fun _ _ _ _ h => h.elim⟩
  | d + 1 => by
    obtain ⟨hm1, he1⟩ := mj_call_ok hm he d
    refine ⟨fun M as S Q Q' hQ h => ?_, fun M as S Q h => ?_⟩
    · unfold mj_call at h ⊢
      by_cases hM : 900 ≤ M
      · rw [if_pos hM] at h ⊢
        exact hm M as S Q Q' hQ h
      · rw [if_neg hM] at h ⊢
        obtain ⟨-, w, -⟩ := mj_so_ex (Z := Unit) (P := fun _ => True) (g := fun _ (z : mj_M) => mj_rn X (mj_hd z.2.1) (mj_call X P bi d) z.2.2 0 (mj_en as ++ List.replicate (z.1 - (mj_en as).length) none) [] S Q') (fun z q => ⟨(), mj_rn_mono hm1 he1 hQ q, trivial⟩) h
        exact w
    · unfold mj_call at h
      by_cases hM : 900 ≤ M
      · rw [if_pos hM] at h
        obtain ⟨o, S', h1, h2⟩ := he M as S Q h
        exact ⟨o, S', by unfold mj_call; rw [if_pos hM]; exact h1, h2⟩
      · rw [if_neg hM] at h
        obtain ⟨⟨o, S'⟩, h1, h2⟩ := mj_so_ex (Z := mj_O × mj_S) (P := fun z => Q z.1 z.2) (g := fun w (z : mj_M) => mj_rn X (mj_hd z.2.1) (mj_call X P bi d) z.2.2 0 (mj_en as ++ List.replicate (z.1 - (mj_en as).length) none) [] S (fun a b => a = w.1 ∧ b = w.2)) (fun z q => by obtain ⟨o, S', q1, q2⟩ := mj_rn_ex hm1 he1 q; exact ⟨(o, S'), q1, q2⟩) h
        exact ⟨o, S', by unfold mj_call; rw [if_neg hM]; exact h1, h2⟩
end MJCL
end
section
/-! CALLS THAT RETURN OR THROW, by a callee's free contract -/
section MJB
variable {p : Program} {l : Launch} {e : Env} {R : Room} {s : State} {m : MethodId} {args : Array Value} {below : List Frame} {meth : Method} {c : Code} {U : State} {locs : List Loc} {cells slots : Nat}
/-- where the caller stands behind a callee that has ended: in its frame, the value pushed; or under the note of what was thrown -/
def mj_Back (p : Program) (e : Env) (below : List Frame) (g : JFrame) (len : Nat) (A B : State) : Outcome → Prop
  | .returned v => Steps p.tables e below A (B.setTop { g with pc := g.pc + len, stack := v.toList ++ g.stack })
  | .threw x => Steps p.tables e below A ((B.setTop g).pushFrame (.throwing x))
theorem mj_back {ws : List Cond} {rm : Room} {Pc : Array Value → State → Prop} {Qc : Array Value → State → Outcome → State → Prop} {y : MethodName} {maxL W len : Nat}
    (hM : MetFree l y (headSpec ws rm) Pc (fun _ _ _ _ _ => True) Qc)
    (hQ : ∀ a st o t, Qc a st o t → st.WarmedH t.vm ∧ ∃ (L : List Loc) (k n : Nat), st.sameButNew ({ t with vm := st.vm } : State) L k n)
    (X : Stand p l e R s m args below meth c U locs cells slots) {g : JFrame} {ig : Instr} {mk : MethodId} {a : Array Value} (hg : g.method = m) (hsize : g.locals.size = c.maxLocals) (hdg : decode c.code g.pc = .ok (ig, len))
    (hW : 2 * g.monitorRoom + (g.stack.map fun v => v.category).sum ≤ W) (hn : U.methodNamed? y = some mk) {methY : Method} {cY : Code} {kY : Class} (hmY : U.vm.method? mk = some methY) (hcY : methY.code = some cY) (hlY : cY.maxLocals = maxL)
    (hkY : U.vm.classes[mk.cls]? = some kY) (hinitY : kY.init = .initialized) (hframes : rm.frames + 1 ≤ R.frames) (hlocals : W + (maxL + 11) + rm.locals ≤ R.locals) (hcells : cells + rm.cells ≤ R.cells) (hslots : slots + rm.slots ≤ R.slots)
    (hws : (allAtoms ws).before a U = true) (hP : Pc a (U.calling g mk a)) :
    ∃ (o : Outcome) (t : State), Qc a (U.calling g mk a) o t ∧ U.WarmedH t.vm ∧
      (∀ (L : List Loc) (k n : Nat), (U.calling g mk a).sameButNew ({ t with vm := (U.calling g mk a).vm } : State) L k n → Stand p l e R s m args below meth c (({ U with heap := t.heap, slotsUsed := t.slotsUsed } : State).setVm t.vm) (locs ++ L) (cells + k) (slots + n)) ∧
      mj_Back p e below g len (doInvoke e (U.setTop g) [] mk a).1 (({ U with heap := t.heap, slotsUsed := t.slotsUsed } : State).setVm t.vm) o := by
  have h : At U g.method c below := by rw [hg]; exact X.here
  have happ : (headSpec ws rm).appliesLoose y e.platform (U.calling g mk a) = true :=
    Spec.appliesLoose_calling (g := g) h hdg hn hkY hinitY
      (X.room_calling (g := g) (R' := (headSpec ws rm).room) hsize hmY hcY hframes (by rw [hlY]; show _ + _ + rm.locals ≤ _; omega) hcells hslots) hws
  obtain ⟨mid, hmid⟩ := h.above
  have hfr : (U.setTop g).frames = (.java g :: mid) ++ below := by rw [State.frames_setTop' g h.top, hmid]; rfl
  obtain ⟨o, s₂, hsteps, -, hend, hq⟩ := Steps.callFree hM p X.admits X.cas X.clock (acts := []) hfr happ hP trivial
  have hq' : Qc a (U.calling g mk a) o s₂ := hq
  rw [State.frames_setTop' g h.top] at hend
  obtain ⟨hW₂, L0, k0, n0, hs0⟩ := hQ _ _ _ _ hq'
  have e2 := hs0.1
  have e3 : s₂ = ({ (U.calling g mk a).setFrames s₂.frames with heap := s₂.heap, slotsUsed := s₂.slotsUsed } : State).setVm s₂.vm := by
    have : s₂ = ({ s₂ with vm := (U.calling g mk a).vm } : State).setVm s₂.vm := rfl
    rw [e2] at this
    exact this
  have hW' : U.WarmedH s₂.vm := hW₂
  obtain ⟨g₀, hg0⟩ := Option.isSome_iff_exists.mp h.top
  obtain ⟨r, hr⟩ := State.topJava?_eq_some.mp hg0
  have hr' : (({ U with heap := s₂.heap, slotsUsed := s₂.slotsUsed } : State).setVm s₂.vm).frames = .java g₀ :: r := hr
  refine ⟨o, s₂, hq', hW', fun L k n hs => ?_, ?_⟩
  · obtain ⟨-, q2, q3, q4, q5, q6⟩ := hs
    have hsame : U.sameButNew ({ U with heap := s₂.heap, slotsUsed := s₂.slotsUsed } : State) L k n := by
      refine ⟨?_, q2, q3, q4, q5, q6⟩
      obtain ⟨t, ht, -⟩ := State.frames_cons hr
      show ({ U with heap := s₂.heap, slotsUsed := s₂.slotsUsed } : State) = { U.setFrames U.frames with heap := s₂.heap, slotsUsed := s₂.slotsUsed }
      rw [State.setFrames_self ht]
    subst hg
    exact ⟨X.admits, X.cas, X.clock, X.frames, X.room, X.hears, X.method, X.code, (X.here.setHeapUsed s₂.heap s₂.slotsUsed).setVm hW'.alike, X.tail, State.WarmedH.trans X.warmed hW', X.limits, X.bytes, X.same.trans (hsame.setVm s.vm)⟩
  · cases o with
    | returned v =>
      obtain ⟨c₂, i₂, len₂, hc₂, hd₂, hf₂⟩ := hend
      have hcc : c₂ = c := by
        have h1 : s₂.code? g.method = U.code? g.method := by
          rw [State.code?_eq, State.code?_eq, hW'.alike.method?]
        exact Option.some.inj (hc₂.symm.trans (h1.trans h.code))
      subst hcc
      have hlen : len₂ = len := by rw [hdg] at hd₂; cases hd₂; rfl
      subst hlen
      have hs₂ : s₂ = (({ U with heap := s₂.heap, slotsUsed := s₂.slotsUsed } : State).setVm s₂.vm).setTop { g with pc := g.pc + len₂, stack := v.toList ++ g.stack } := by
        refine e3.trans ?_
        rw [hf₂, State.calling_eq h.top, State.setFrames_setFrames, State.setTop_of_frames _ hr', hr]
        rfl
      show Steps p.tables e below _ ((({ U with heap := s₂.heap, slotsUsed := s₂.slotsUsed } : State).setVm s₂.vm).setTop { g with pc := g.pc + len₂, stack := v.toList ++ g.stack })
      rw [← hs₂]
      exact hsteps
    | threw x =>
      have hf₂ : s₂.frames = .throwing x :: .java g :: U.frames.tail := hend
      have hs₂ : s₂ = ((({ U with heap := s₂.heap, slotsUsed := s₂.slotsUsed } : State).setVm s₂.vm).setTop g).pushFrame (.throwing x) := by
        refine e3.trans ?_
        rw [hf₂, State.calling_eq h.top, State.setFrames_setFrames, State.pushFrame, State.frames_setTop _ hr', State.setTop_of_frames _ hr', State.setFrames_setFrames, hr]
        rfl
      show Steps p.tables e below _ (((({ U with heap := s₂.heap, slotsUsed := s₂.slotsUsed } : State).setVm s₂.vm).setTop g).pushFrame (.throwing x))
      rw [← hs₂]
      exact hsteps
end MJB
end
section
/-! THE STEP OF AN INVOKING INSTRUCTION, up to the callee's entry -/
section MJE
variable {p : Program} {l : Launch} {e : Env} {R : Room} {s : State} {m : MethodId} {args : Array Value} {below : List Frame} {meth : Method} {c : Code} {T : State} {locs : List Loc} {cells slots : Nat}
def mj_Ent (p : Program) (l : Launch) (e : Env) (R : Room) (s : State) (m : MethodId) (args : Array Value) (below : List Frame) (meth : Method) (c : Code) (T : State) (locs : List Loc) (cells slots : Nat) (y : MethodName) (g : JFrame) (rest : List Value) (a : Array Value) : Prop :=
  ∃ (vm₁ : Vm) (mk : MethodId), Stand p l e R s m args below meth c (T.setVm vm₁) locs cells slots ∧ s.methodNamed? y = some mk ∧
    ∀ target, Steps p.tables e below (doInvoke e ((T.setVm vm₁).setTop { g with stack := rest }) [] mk a).1 target → Steps p.tables e below (T.setTop g) target
theorem mj_entV (X : Stand p l e R s m args below meth c T locs cells slots) (hexec : p.tables.exec = Jvm.exec) {own C : String} {index : Nat} {y : MethodName} {bytes : ByteArray} {maxL : Nat} {ret : Option FieldType} {hh : List (Nat × Nat × Nat × Nat)}
    (hown : s.vm.findClass own = some m.cls) (hlink : (Cond.methodLink own index y).before args s = true) (hinst : (Cond.instanceMethod y).before args s = true) (hsel : (Cond.selects C y y).before args s = true)
    (hcode : (Cond.codeWith y bytes maxL ret hh).before args s = true) (hy : y.cls ≠ "java/lang/invoke/MethodHandle" ∧ y.cls ≠ "java/lang/invoke/VarHandle")
    {b : Addr} {cellB : Cell} (hcell : T.heap[b]? = some cellB) (hobj : cellB.vm.isStatics = false) (hcls : s.vm.findClass C = some cellB.cls)
    {g : JFrame} (hg : g.method = m) {argsL rest : List Value} (hlen : ∀ sig, parseMethodDescriptor y.desc = some sig → argsL.length = sig.parameters.length)
    (hstack : g.stack = argsL.reverse ++ .ref b :: rest) (hdg : decode c.code g.pc = .ok (.invokevirtual index, 3)) : mj_Ent p l e R s m args below meth c T locs cells slots y g rest (Value.ref b :: argsL).toArray := by
  obtain ⟨mk, methM, hnamed, hmethM, hstM, habM⟩ := Cond.instanceMethod_spec hinst
  obtain ⟨m9, methM', cM, hn9, hmethM', -, -, -, -, -, -, hsigM⟩ := Cond.codeWith_spec hcode
  cases hnamed.symm.trans hn9
  cases hmethM.symm.trans hmethM'
  obtain ⟨c2, r2, m2, q1, q2, q3, q4, kP, hkP, hkPi⟩ := Cond.selects_spec hsel
  cases hcls.symm.trans q1
  cases (State.methodFound?_of_named hnamed hy).symm.trans q2
  cases hnamed.symm.trans q3
  have hselP : selectMethod e.platform s.vm cellB.cls mk = .method mk := by rw [Launch.admits_selectMethod X.admits]; exact q4
  obtain ⟨vm₁, X₁, hstep₁⟩ := X.invokevirtual hexec hown hlink hnamed hmethM hstM hkP hkPi hy (a := b) (cell := cellB) hcell
    (fun z h => by rw [h] at hobj; cases hobj) hselP hmethM habM hkP hkPi (g := g) hg (argsL := argsL) (rest := rest) (hlen _ hsigM) hstack hdg
  exact ⟨vm₁, mk, X₁, hnamed, fun target h => hstep₁ _ fun acts => by rw [doInvoke_state]; exact h⟩
theorem mj_entS (X : Stand p l e R s m args below meth c T locs cells slots) (hexec : p.tables.exec = Jvm.exec) {own : String} {index : Nat} {y : MethodName} {bytes : ByteArray} {maxL : Nat} {ret : Option FieldType} {hh : List (Nat × Nat × Nat × Nat)}
    (hown : s.vm.findClass own = some m.cls) (hlink : (Cond.methodLink own index y).before args s = true) (hstat : (Cond.static y).before args s = true) (hinit : (Cond.initialized y.cls).before args s = true)
    (hcode : (Cond.codeWith y bytes maxL ret hh).before args s = true) (hy : y.cls ≠ "java/lang/invoke/MethodHandle" ∧ y.cls ≠ "java/lang/invoke/VarHandle")
    {g : JFrame} (hg : g.method = m) {argsL rest : List Value} (hlen : ∀ sig, parseMethodDescriptor y.desc = some sig → argsL.length = sig.parameters.length)
    (hstack : g.stack = argsL.reverse ++ rest) (hdg : decode c.code g.pc = .ok (.invokestatic index, 3)) : mj_Ent p l e R s m args below meth c T locs cells slots y g rest argsL.toArray := by
  obtain ⟨mk, methM, cM, hnamed, hmethM, -, -, -, -, -, -, hsigM⟩ := Cond.codeWith_spec hcode
  have hstatic : methM.isStatic = true := Cond.static_spec hnamed hmethM hstat
  obtain ⟨kP, hkP, -⟩ := className_of_methodNamed hnamed
  have hinitP : kP.init = .initialized := Cond.initialized_spec (findClass_of_methodNamed hnamed) hkP hinit
  obtain ⟨vm₁, X₁, hstep₁⟩ := X.invokestatic hexec hown hlink hnamed hmethM hstatic hkP hinitP hy (g := g) hg (argsL := argsL) (rest := rest) (hlen _ hsigM) hstack hdg
  exact ⟨vm₁, mk, X₁, hnamed, fun target h => hstep₁ _ fun acts => by rw [doInvoke_state]; exact h⟩
theorem mj_entI (X : Stand p l e R s m args below meth c T locs cells slots) (hexec : p.tables.exec = Jvm.exec) {own : String} {index : Nat} {y : MethodName} {bytes : ByteArray} {maxL : Nat}
    (hown : s.vm.findClass own = some m.cls) (hy1 : y.name = "<init>") (hlink : (Cond.methodLink own index y).before args s = true) (hinst : (Cond.instanceMethod y).before args s = true)
    (hcode : (Cond.code y bytes maxL none).before args s = true) (hy : y.cls ≠ "java/lang/invoke/MethodHandle" ∧ y.cls ≠ "java/lang/invoke/VarHandle")
    {g : JFrame} (hg : g.method = m) {a : Addr} {argsL rest : List Value} (hlen : ∀ sig, parseMethodDescriptor y.desc = some sig → argsL.length = sig.parameters.length)
    (hstack : g.stack = argsL.reverse ++ .ref a :: rest) (hdg : decode c.code g.pc = .ok (.invokespecial index, 3)) : mj_Ent p l e R s m args below meth c T locs cells slots y g rest (Value.ref a :: argsL).toArray := by
  subst hg
  have hpl : e.platform.magicAccessors = ({} : Platform).magicAccessors := by rw [X.admits.platform]
  obtain ⟨mk, methM, cM, kP, vm₁, hnamed, hmethM, hcodeM, -, hlocalsM, -, hkP, -, hW₁, hstep₁⟩ := Steps.initColdArgs (e := e) X.here hexec X.warmed hpl hown hy1 hy hlink hinst hcode (f := g) rfl hlen hstack hdg
  exact ⟨vm₁, mk, X.noted hW₁, hnamed, fun target h => hstep₁ _ fun acts => by rw [doInvoke_state]; exact h⟩
theorem mj_entSN (X : Stand p l e R s m args below meth c T locs cells slots) (hexec : p.tables.exec = Jvm.exec) {own : String} {index : Nat} {host : String} {y : MethodName} {bytes : ByteArray} {maxL : Nat} {ret : Option FieldType} {hh : List (Nat × Nat × Nat × Nat)}
    (hown : s.vm.findClass own = some m.cls) (hlink : (Cond.methodLinkNest own index y host).before args s = true) (hstat : (Cond.static y).before args s = true) (hinit : (Cond.initialized y.cls).before args s = true)
    (hcode : (Cond.codeWith y bytes maxL ret hh).before args s = true) (hy : y.cls ≠ "java/lang/invoke/MethodHandle" ∧ y.cls ≠ "java/lang/invoke/VarHandle")
    {g : JFrame} (hg : g.method = m) {argsL rest : List Value} (hlen : ∀ sig, parseMethodDescriptor y.desc = some sig → argsL.length = sig.parameters.length)
    (hstack : g.stack = argsL.reverse ++ rest) (hdg : decode c.code g.pc = .ok (.invokestatic index, 3)) : mj_Ent p l e R s m args below meth c T locs cells slots y g rest argsL.toArray := by
  obtain ⟨mk, methM, cM, hnamed, hmethM, -, -, -, -, -, -, hsigM⟩ := Cond.codeWith_spec hcode
  have hstatic : methM.isStatic = true := Cond.static_spec hnamed hmethM hstat
  obtain ⟨kP, hkP, -⟩ := className_of_methodNamed hnamed
  have hinitP : kP.init = .initialized := Cond.initialized_spec (findClass_of_methodNamed hnamed) hkP hinit
  obtain ⟨vm₁, X₁, hstep₁⟩ := X.invokestaticNest hexec hown hlink hnamed hmethM hstatic hkP hinitP hy (g := g) hg (argsL := argsL) (rest := rest) (hlen _ hsigM) hstack hdg
  exact ⟨vm₁, mk, X₁, hnamed, fun target h => hstep₁ _ fun acts => by rw [doInvoke_state]; exact h⟩
end MJE
end
section
/-! WHAT IS THROWN: caught by a handler of the frame's own; made and thrown by 'new E(text); athrow' -/
section MJT
variable {p : Program} {l : Launch} {e : Env} {R : Room} {s : State} {m : MethodId} {args : Array Value} {below : List Frame} {meth : Method} {c : Code} {T : State} {locs : List Loc} {cells slots : Nat}
/-- the same walk, told from the heap as it is now -/
theorem mj_rebase (X : Stand p l e R s m args below meth c T locs cells slots) {R' : Room} (h1 : R'.frames = R.frames) (h2 : R'.locals = R.locals) (h3 : cells + R'.cells ≤ R.cells) (h4 : slots + R'.slots ≤ R.slots) :
    Stand p l e R' ({ s with heap := T.heap, slotsUsed := T.slotsUsed } : State) m args below meth c T [] 0 0 := by
  have hh := X.same
  have hT := hh.1
  have hsz := X.heapSize
  have hus := X.used
  have hbk := X.book
  have hroom := X.room
  refine ⟨X.admits, X.cas, X.clock, X.frames, ?_, X.hears, X.method, X.code, X.here, X.tail, X.warmed, X.limits, X.bytes, ?_⟩
  · simp only [State.hasRoom, Bool.and_eq_true, decide_eq_true_eq] at hroom ⊢
    obtain ⟨⟨⟨⟨a1, a2⟩, a3⟩, a4⟩, a5⟩ := hroom
    refine ⟨⟨⟨⟨?_, ?_⟩, ?_⟩, ?_⟩, ?_⟩
    · rw [h2]; exact a1
    · rw [h1, h2]; exact a2
    · show T.heap.size + R'.cells ≤ _
      omega
    · show T.slotsUsed + R'.slots ≤ _
      omega
    · exact hbk
  · refine ⟨?_, Nat.le_refl _, Nat.le_refl _, ?_, ?_, ?_⟩
    · exact hT
    · show T.slotsUsed = T.slotsUsed + ((T.heap.toList.drop T.heap.size).map (·.slots.size)).sum
      rw [List.drop_eq_nil_of_le (by simp)]
      rfl
    · show ((T.heap.toList.drop T.heap.size).map (·.slots.size)).sum ≤ 0
      rw [List.drop_eq_nil_of_le (by simp)]
      exact Nat.le_refl _
    · intro a c hc
      exact ⟨c, hc, rfl, rfl, fun _ _ => rfl⟩
theorem mj_stepCatch {S : State} {f : JFrame} {r : List Frame} {a : Addr} {pc : Nat} {vm' : Vm} (hfind : ∀ (Q : Handler → Pre) (E : CtlPost) (d : Bool) (acts : List Action), wp (findHandler f a) Q E e d acts S ↔ Q (.found pc) d acts (S.setVm vm')) :
    (stepThrowing e S a (.java f :: r)).1 = (S.setVm vm').setFrames (.java { f with pc := pc, stack := [.ref a] } :: r) := by
  simp only [stepThrowing, searchFrame, vmDo]
  generalize hr : Sem.go _ e false [] S = res
  obtain ⟨as, rfl, ha⟩ := Sem.eq_ok_of hr (a := Handler.found pc) (s' := S.setVm vm') (acts' := []) (by simp [hfind _ _ _ _])
  rfl
/-- a handler that takes it: its class's entry links -/
theorem mj_caught1 {g : JFrame} {a : Addr} {x : ExceptionTableEntry} {own nm : String} (X : Stand p l e R s m args below meth c T locs cells slots) (hg : g.method = m) (htab : c.exceptionTable.toList = [x]) (hx : covers x g.pc = true) (h0 : x.catchType ≠ 0)
    (hown : s.vm.findClass own = some m.cls) (hlink : (Cond.classLink own x.catchType nm).before args s = true) {cell : Cell} (hcell : T.heap[a]? = some cell) (hobj : cell.vm.isStatics = false) {cN : ClassId} (hN : s.vm.findClass nm = some cN) (hcls : s.vm.assignable cell.cls cN = true) :
    ∃ vm', Stand p l e R s m args below meth c (T.setVm vm') locs cells slots ∧ ∀ target, Steps p.tables e below ((T.setVm vm').setTop { g with pc := x.handlerPc, stack := [.ref a] }) target → Steps p.tables e below ((T.setTop g).pushFrame (.throwing a)) target := by
  have hpl : e.platform.magicAccessors = ({} : Platform).magicAccessors := by rw [X.admits.platform]
  obtain ⟨cN', hN', hl⟩ := Cond.classLink_spec hown hlink e.platform hpl
  cases hN.symm.trans hN'
  obtain ⟨hgv, hwm, hrd⟩ := State.classEntry (e := e) X.warmed hl
  generalize hvm : T.vm.noted m.cls x.catchType (.cls cN) = vm' at hgv hwm hrd
  refine ⟨vm', X.noted hwm, fun target hrest => ?_⟩
  have h : At T g.method c below := by rw [hg]; exact X.here
  obtain ⟨hgo, hw⟩ := h.throwing a
  refine Steps.head hgo hw ?_
  rw [stepThread_throwing (frames_entered h.top _)]
  have hsz : vm'.classes.size ≤ ((T.setTop g).pushFrame (.throwing a)).vm.classes.size := by
    have h1 := hwm.alike.2.1
    have h2 := X.warmed.alike.2.1
    show vm'.classes.size ≤ T.vm.classes.size
    omega
  have hgv : (Jvm.resolveClass m.cls x.catchType).Gives e.toSetting ((T.setTop g).pushFrame (.throwing a)).vm (.ok cN) vm' := hgv
  have hcell : ((T.setTop g).pushFrame (.throwing a)).heap[a]? = some cell := hcell
  have hal : s.vm.Alike vm' := hwm.alike
  have hfind : ∀ (Q : Handler → Pre) (E : CtlPost) (d : Bool) (acts : List Action), wp (findHandler g a) Q E e d acts ((T.setTop g).pushFrame (.throwing a)) ↔ Q (.found x.handlerPc) d acts (((T.setTop g).pushFrame (.throwing a)).setVm vm') := by
    intro Q E d acts
    rw [W.findHandler_eq (s := (T.setTop g).pushFrame (.throwing a)) (meth := meth) (code := c) (by rw [hg]; exact X.method') X.code, htab]
    obtain ⟨ha, ht⟩ := hgv.op (op := VmOp.resolveClass m.cls x.catchType) rfl
    have hfit : vm'.assignable cell.cls cN = true := by rw [hal.assignable]; exact hcls
    have hk2 := Vm.classAt_of_findClass (vm := vm') (name := nm) (c := cN) (by rw [hal.findClass]; exact hN)
    have hk1 := Vm.classAt_of_assignable hfit hk2
    have hobj' := VmData.ne_statics_of hobj
    simp only [covers] at hx
    simp [findHandler.go, hx, h0, hg, ha, ht, hsz, hcell, hobj', hk1, hk2, hfit, VmOp.dirties, VmOp.acts]
  rw [mj_stepCatch hfind]
  obtain ⟨g₀, hg0⟩ := Option.isSome_iff_exists.mp h.top
  obtain ⟨r, hr⟩ := State.topJava?_eq_some.mp hg0
  rw [State.setTop_of_frames _ (show (T.setVm vm').frames = .java g₀ :: r from hr)] at hrest
  rw [State.pushFrame, State.setTop_of_frames _ hr, State.setFrames_setFrames, State.setFrames_setVm, State.setFrames_setFrames, hr]
  exact hrest
end MJT
end
