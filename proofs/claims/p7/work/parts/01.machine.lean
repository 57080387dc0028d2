/-! MINI MACHINE: a weakest-precondition reading of the bytecode over a small typed store. -/
/-- the store: kinds of the cells (k, n): k below 1000 an object of class k with n fields, 1000 + t an array of n elements; ints, longs, references by cell and place; cells and slots made so far -/
abbrev mj_S : Type := List (Nat × Nat) × (Nat → Nat → Int32) × (Nat → Nat → Int64) × (Nat → Nat → Option Nat) × Nat × Nat
/-- how a call ends: it returns (a value or none), or throws an exception of the class with this number -/
abbrev mj_O : Type := Option Value ⊕ Nat
abbrev mj_LV : Type := List (Option Value)
/-- pc, instruction, length, resolved numbers a b t, an int constant, a long constant, a switch's cases -/
abbrev mj_I : Type := Nat × Instr × Nat × (Nat × Nat × Nat) × Int32 × Int64 × List (Int32 × Nat)
abbrev mj_Q : Type := mj_O → mj_S → Prop
abbrev mj_N : Type := Nat → mj_LV → List Value → mj_S → mj_Q → Prop
abbrev mj_C : Type := Nat → List Value → mj_S → mj_Q → Prop
abbrev mj_K : Type := mj_LV → List Value → mj_S → Prop
/-- the script: its length and contents; the texts of the string constants; the most cells and slots -/
abbrev mj_X : Type := (Nat × (Nat → Int32)) × List (List Int32) × Nat × Nat
def mj_up {α : Type} (f : Nat → Nat → α) (a j : Nat) (v : α) : Nat → Nat → α := fun b k => if b = a then (if k = j then v else f b k) else f b k
def mj_row {α : Type} (f : Nat → Nat → α) (a : Nat) (g : Nat → α) : Nat → Nat → α := fun b k => if b = a then g k else f b k
/-- the object o is of class c and has a place b; the kind and length of the array o -/
def mj_ob (sh : List (Nat × Nat)) (o c b : Nat) : Bool := match sh[o]? with
  | some (k, n) => (k == c) && Nat.blt b n
  | none => false
def mj_ar (sh : List (Nat × Nat)) (o t : Nat) : Option Nat := match sh[o]? with
  | some (k, n) => if k = 1000 + t then some n else none
  | none => none
def mj_cmp (c : ClassFile.Cond) (x y : Int32) : Prop := match c with
  | .eq => x = y
  | .ne => ¬ x = y
  | .lt => x < y
  | .ge => y ≤ x
  | .gt => y < x
  | .le => x ≤ y
-- what stands on top; what a local holds; a test; an option
def mj_pI (f : Int32 → List Value → Prop) : List Value → Prop
  | .int x :: r => f x r
  | _ => False
def mj_pL (f : Int64 → List Value → Prop) : List Value → Prop
  | .long x :: r => f x r
  | _ => False
def mj_pR (f : Nat → List Value → Prop) : List Value → Prop
  | .ref x :: r => f x r
  | _ => False
def mj_pN (f : List Value → Prop) (g : Nat → List Value → Prop) : List Value → Prop
  | .null :: r => f r
  | .ref x :: r => g x r
  | _ => False
def mj_p0 (f : Prop) : List Value → Prop
  | [] => f
  | _ => False
def mj_pV (f : Value → List Value → Prop) : List Value → Prop
  | v :: r => v.category = 1 ∧ f v r
  | [] => False
def mj_gI (f : Int32 → Prop) : Option Value → Prop
  | some (.int x) => f x
  | _ => False
def mj_gL (f : Int64 → Prop) : Option Value → Prop
  | some (.long x) => f x
  | _ => False
def mj_gA (f : Value → Prop) : Option Value → Prop
  | some (.ref x) => f (.ref x)
  | some .null => f .null
  | _ => False
def mj_tt (f : Prop) : Bool → Prop
  | true => f
  | false => False
def mj_so {α : Type} (f : α → Prop) : Option α → Prop
  | some x => f x
  | none => False
/-- the receiver is an object of class c -/
def mj_rc (f : Prop) (sh : List (Nat × Nat)) (c : Nat) : List Value → Prop
  | .ref o :: _ => mj_tt f (match sh[o]? with
    | some (k, _) => k == c
    | none => false)
  | _ => False
/-- the receiver is a reference -/
def mj_hr (f : Prop) : List Value → Prop
  | .ref _ :: _ => f
  | _ => False
def mj_br (c : Prop) (f g : Prop) : Prop := (c → f) ∧ (¬ c → g)
def mj_sw (nx : Nat → Prop) (d : Nat) (x : Int32) : List (Int32 × Nat) → Prop
  | [] => nx d
  | (k, t) :: r => mj_br (x = k) (nx t) (mj_sw nx d x r)
/-- the uppermost n values, the deepest first, and the rest -/
def mj_tk : Nat → List Value → List Value → Option (List Value × List Value)
  | 0, acc, st => some (acc, st)
  | _ + 1, _, [] => none
  | n + 1, acc, v :: st => mj_tk n (v :: acc) st
def mj_c2 : Option Value → Bool
  | some (.long _) => true
  | some (.double _) => true
  | _ => false
/-- a store to a local: a long that stood at i - 1 is gone; behind a long nothing stands -/
def mj_st (lv : mj_LV) (i : Nat) (v : Value) : mj_LV := match i with
  | 0 => lv.set 0 (some v)
  | j + 1 => if mj_c2 (lv.getD j none) then (lv.set j none).set (j + 1) (some v) else lv.set (j + 1) (some v)
def mj_st2 (lv : mj_LV) (i : Nat) (v : Int64) : mj_LV := (mj_st lv i (.long v)).set (i + 1) none
/-- where an exception thrown at pc goes: the class that is caught there, the local that takes it, the pc behind that store -/
abbrev mj_H : Type := Nat → Option (Nat × Nat × Nat)
/-- a local that is no longer known -/
def mj_er (lv : mj_LV) (i : Nat) : mj_LV := (mj_st lv i .null).set i none
/-- what comes behind a call -/
def mj_ret (hd : mj_H) (nx : mj_N) (pc : Nat) (K : mj_K) (lv : mj_LV) (rest : List Value) (Q : mj_Q) : mj_O → mj_S → Prop
  | .inl none, S => K lv rest S
  | .inl (some v), S => K lv (v :: rest) S
  | .inr x, S => match hd pc with
    | some (k, i, h) => x = k ∧ nx h (mj_er lv i) [] S Q
    | none => Q (.inr x) S
/-- a new cell of kind k with n places -/
def mj_new (X : mj_X) (K : Nat → mj_S → Prop) (k n : Nat) (S : mj_S) : Prop :=
  (S.2.2.2.2.1 + 1 ≤ X.2.2.1 ∧ S.2.2.2.2.2 + n ≤ X.2.2.2) ∧
  K S.1.length (S.1 ++ [(k, n)], mj_row S.2.1 S.1.length (fun _ => 0), mj_row S.2.2.1 S.1.length (fun _ => 0), mj_row S.2.2.2.1 S.1.length (fun _ => none), S.2.2.2.2.1 + 1, S.2.2.2.2.2 + n)
def mj_ald (K : mj_K) (t : Nat) (lv : mj_LV) (st : List Value) (S : mj_S) : Prop :=
  mj_pI (fun k r => mj_pR (fun o r => mj_so (fun n => vp_in k n ∧ K lv (.int (S.2.1 o k.toNatClampNeg) :: r) S) (mj_ar S.1 o t)) r) st
def mj_ast (K : mj_K) (nar : Int32 → Int32) (t : Nat) (lv : mj_LV) (st : List Value) (S : mj_S) : Prop :=
  mj_pI (fun v r => mj_pI (fun k r => mj_pR (fun o r => mj_so (fun n => vp_in k n ∧ K lv r (S.1, mj_up S.2.1 o k.toNatClampNeg (nar v), S.2.2)) (mj_ar S.1 o t)) r) r) st
/-- what an operand stack weighs -/
def mj_wg : List Value → Nat
  | [] => 0
  | v :: r => v.category + mj_wg r
/-- a call; of a receiver of class t -/
def mj_iv (hd : mj_H) (cl : mj_C) (nx : mj_N) (Q : mj_Q) (pc a n : Nat) (K : mj_K) (lv : mj_LV) (st : List Value) (S : mj_S) : Prop :=
  mj_so (fun z => mj_tt (cl a z.1 S (mj_ret hd nx pc K lv z.2 Q)) (Nat.ble (mj_wg z.2) 8)) (mj_tk n [] st)
def mj_ir (hd : mj_H) (cl : mj_C) (nx : mj_N) (Q : mj_Q) (pc a n t : Nat) (K : mj_K) (lv : mj_LV) (st : List Value) (S : mj_S) : Prop :=
  mj_so (fun z => mj_tt (mj_rc (cl a z.1 S (mj_ret hd nx pc K lv z.2 Q)) S.1 t z.1) (Nat.ble (mj_wg z.2) 8)) (mj_tk n [] st)
def mj_ip (hd : mj_H) (cl : mj_C) (nx : mj_N) (Q : mj_Q) (pc a n : Nat) (K : mj_K) (lv : mj_LV) (st : List Value) (S : mj_S) : Prop :=
  mj_so (fun z => mj_tt (mj_hr (cl a z.1 S (mj_ret hd nx pc K lv z.2 Q)) z.1) (Nat.ble (mj_wg z.2) 8)) (mj_tk n [] st)
/-- one instruction; K: what must hold behind it -/
def mj_in (X : mj_X) (hd : mj_H) (cl : mj_C) (nx : mj_N) (Q : mj_Q) (x : mj_I) (K : mj_K) (lv : mj_LV) (st : List Value) (S : mj_S) : Prop :=
  match x.2.1 with
  | .iconst _ => K lv (.int x.2.2.2.2.1 :: st) S
  | .bipush _ => K lv (.int x.2.2.2.2.1 :: st) S
  | .sipush _ => K lv (.int x.2.2.2.2.1 :: st) S
  | .ldc _ => match x.2.2.2.1.2.2 with
    | 0 => K lv (.int x.2.2.2.2.1 :: st) S
    | _ => K lv (.ref x.2.2.2.1.1 :: st) S
  | .ldc_w _ => K lv (.int x.2.2.2.2.1 :: st) S
  | .lconst _ => K lv (.long x.2.2.2.2.2.1 :: st) S
  | .ldc2_w _ => K lv (.long x.2.2.2.2.2.1 :: st) S
  | .iload _ => mj_gI (fun v => K lv (.int v :: st) S) (lv.getD x.2.2.2.1.1 none)
  | .iload_n _ => mj_gI (fun v => K lv (.int v :: st) S) (lv.getD x.2.2.2.1.1 none)
  | .lload _ => mj_gL (fun v => K lv (.long v :: st) S) (lv.getD x.2.2.2.1.1 none)
  | .lload_n _ => mj_gL (fun v => K lv (.long v :: st) S) (lv.getD x.2.2.2.1.1 none)
  | .aload _ => mj_gA (fun v => K lv (v :: st) S) (lv.getD x.2.2.2.1.1 none)
  | .aload_n _ => mj_gA (fun v => K lv (v :: st) S) (lv.getD x.2.2.2.1.1 none)
  | .istore _ => mj_pI (fun v r => K (mj_st lv x.2.2.2.1.1 (.int v)) r S) st
  | .istore_n _ => mj_pI (fun v r => K (mj_st lv x.2.2.2.1.1 (.int v)) r S) st
  | .lstore _ => mj_pL (fun v r => K (mj_st2 lv x.2.2.2.1.1 v) r S) st
  | .lstore_n _ => mj_pL (fun v r => K (mj_st2 lv x.2.2.2.1.1 v) r S) st
  | .astore _ => mj_pR (fun v r => K (mj_st lv x.2.2.2.1.1 (.ref v)) r S) st
  | .astore_n _ => mj_pR (fun v r => K (mj_st lv x.2.2.2.1.1 (.ref v)) r S) st
  | .iinc _ _ => mj_gI (fun v => K (mj_st lv x.2.2.2.1.1 (.int (v + x.2.2.2.2.1))) st S) (lv.getD x.2.2.2.1.1 none)
  | .iadd => mj_pI (fun b r => mj_pI (fun a r => K lv (.int (a + b) :: r) S) r) st
  | .isub => mj_pI (fun b r => mj_pI (fun a r => K lv (.int (a - b) :: r) S) r) st
  | .imul => mj_pI (fun b r => mj_pI (fun a r => K lv (.int (a * b) :: r) S) r) st
  | .iand => mj_pI (fun b r => mj_pI (fun a r => K lv (.int (a &&& b) :: r) S) r) st
  | .ior => mj_pI (fun b r => mj_pI (fun a r => K lv (.int (a ||| b) :: r) S) r) st
  | .ixor => mj_pI (fun b r => mj_pI (fun a r => K lv (.int (a ^^^ b) :: r) S) r) st
  | .ishl => mj_pI (fun b r => mj_pI (fun a r => K lv (.int (a <<< (b &&& 31)) :: r) S) r) st
  | .ishr => mj_pI (fun b r => mj_pI (fun a r => K lv (.int (a >>> (b &&& 31)) :: r) S) r) st
  | .ineg => mj_pI (fun a r => K lv (.int (-a) :: r) S) st
  | .i2c => mj_pI (fun a r => K lv (.int (a.toUInt32 % 65536).toInt32 :: r) S) st
  | .i2b => mj_pI (fun a r => K lv (.int a.toInt8.toInt32 :: r) S) st
  | .idiv => mj_pI (fun b r => mj_pI (fun a r => ¬ b = 0 ∧ K lv (.int (a / b) :: r) S) r) st
  | .irem => mj_pI (fun b r => mj_pI (fun a r => ¬ b = 0 ∧ K lv (.int (a - a / b * b) :: r) S) r) st
  | .ladd => mj_pL (fun b r => mj_pL (fun a r => K lv (.long (a + b) :: r) S) r) st
  | .lsub => mj_pL (fun b r => mj_pL (fun a r => K lv (.long (a - b) :: r) S) r) st
  | .lmul => mj_pL (fun b r => mj_pL (fun a r => K lv (.long (a * b) :: r) S) r) st
  | .land => mj_pL (fun b r => mj_pL (fun a r => K lv (.long (a &&& b) :: r) S) r) st
  | .lor => mj_pL (fun b r => mj_pL (fun a r => K lv (.long (a ||| b) :: r) S) r) st
  | .lneg => mj_pL (fun a r => K lv (.long (-a) :: r) S) st
  | .ldiv => mj_pL (fun b r => mj_pL (fun a r => ¬ b = 0 ∧ K lv (.long (a / b) :: r) S) r) st
  | .lrem => mj_pL (fun b r => mj_pL (fun a r => ¬ b = 0 ∧ K lv (.long (a - a / b * b) :: r) S) r) st
  | .lushr => mj_pI (fun b r => mj_pL (fun a r => K lv (.long (a.toUInt64 >>> (b.toInt64.toUInt64 &&& Int64.toUInt64 63)).toInt64 :: r) S) r) st
  | .lshl => mj_pI (fun b r => mj_pL (fun a r => K lv (.long (a <<< (b.toInt64 &&& 63)) :: r) S) r) st
  | .lshr => mj_pI (fun b r => mj_pL (fun a r => K lv (.long (a >>> (b.toInt64 &&& 63)) :: r) S) r) st
  | .lcmp => mj_pL (fun b r => mj_pL (fun a r => K lv (.int (lg_cmp a b) :: r) S) r) st
  | .i2l => mj_pI (fun a r => K lv (.long a.toInt64 :: r) S) st
  | .l2i => mj_pL (fun a r => K lv (.int a.toInt32 :: r) S) st
  | .dup => mj_pV (fun v r => K lv (v :: v :: r) S) st
  | .pop => mj_pV (fun _ r => K lv r S) st
  | .ifCond c _ => mj_pI (fun a r => mj_br (mj_cmp c a 0) (nx x.2.2.2.1.1 lv r S Q) (K lv r S)) st
  | .if_icmp c _ => mj_pI (fun b r => mj_pI (fun a r => mj_br (mj_cmp c a b) (nx x.2.2.2.1.1 lv r S Q) (K lv r S)) r) st
  | .goto _ => nx x.2.2.2.1.1 lv st S Q
  | .tableswitch _ _ _ _ => mj_pI (fun a r => mj_sw (fun t => nx t lv r S Q) x.2.2.2.1.1 a x.2.2.2.2.2.2) st
  | .lookupswitch _ _ => mj_pI (fun a r => mj_sw (fun t => nx t lv r S Q) x.2.2.2.1.1 a x.2.2.2.2.2.2) st
  | .iaload => match x.2.2.2.1.2.2 with
    | 0 => mj_ald K 0 lv st S
    | _ => mj_pI (fun k r => mj_pR (fun o r => o = 900000 ∧ vp_in k X.1.1 ∧ K lv (.int (X.1.2 k.toNatClampNeg) :: r) S) r) st
  | .caload => mj_ald K 2 lv st S
  | .baload => match x.2.2.2.1.2.2 with
    | 3 => mj_ald K 3 lv st S
    | _ => mj_ald K 4 lv st S
  | .laload => mj_pI (fun k r => mj_pR (fun o r => mj_so (fun n => vp_in k n ∧ K lv (.long (S.2.2.1 o k.toNatClampNeg) :: r) S) (mj_ar S.1 o 1)) r) st
  | .iastore => mj_ast K (fun v => v) 0 lv st S
  | .castore => mj_ast K (fun v => vp_nar .char v) 2 lv st S
  | .bastore => match x.2.2.2.1.2.2 with
    | 3 => mj_ast K (fun v => vp_nar .boolean v) 3 lv st S
    | _ => mj_ast K (fun v => vp_nar .byte v) 4 lv st S
  | .lastore => mj_pL (fun v r => mj_pI (fun k r => mj_pR (fun o r => mj_so (fun n => vp_in k n ∧ K lv r (S.1, S.2.1, mj_up S.2.2.1 o k.toNatClampNeg v, S.2.2.2)) (mj_ar S.1 o 1)) r) r) st
  | .arraylength => match x.2.2.2.1.2.2 with
    | 0 => mj_pR (fun o r => mj_so (fun n => K lv (.int (Int32.ofNat n) :: r) S) (mj_ar S.1 o 0)) st
    | _ => mj_pR (fun o r => o = 900000 ∧ K lv (.int (Int32.ofNat X.1.1) :: r) S) st
  | .getfield _ => mj_pR (fun o r => mj_tt (match x.2.2.2.1.2.2 with
    | 0 => K lv (.int (S.2.1 o x.2.2.2.1.2.1) :: r) S
    | _ => mj_so (fun q => K lv (.ref q :: r) S) (S.2.2.2.1 o x.2.2.2.1.2.1)) (mj_ob S.1 o x.2.2.2.1.1 x.2.2.2.1.2.1)) st
  | .putfield _ => match x.2.2.2.1.2.2 with
    | 0 => mj_pI (fun v r => mj_pR (fun o r => mj_tt (K lv r (S.1, mj_up S.2.1 o x.2.2.2.1.2.1 v, S.2.2)) (mj_ob S.1 o x.2.2.2.1.1 x.2.2.2.1.2.1)) r) st
    | 2 => mj_pR (fun v r => mj_pR (fun o r => mj_tt (K lv r (S.1, S.2.1, S.2.2.1, mj_up S.2.2.2.1 o x.2.2.2.1.2.1 (some v), S.2.2.2.2)) (mj_ob S.1 o x.2.2.2.1.1 x.2.2.2.1.2.1)) r) st
    | _ => mj_pI (fun v r => mj_pR (fun o r => mj_tt ((v = 0 ∨ v = 1) ∧ K lv r (S.1, mj_up S.2.1 o x.2.2.2.1.2.1 v, S.2.2)) (mj_ob S.1 o x.2.2.2.1.1 x.2.2.2.1.2.1)) r) st
  | .new _ => match x.2.2.2.1.2.2 with
    | 0 => mj_new X (fun q S' => K lv (.ref q :: st) S') x.2.2.2.1.1 x.2.2.2.1.2.1 S
    | _ => mj_p0 ((S.2.2.2.2.1 + 1 ≤ X.2.2.1 ∧ S.2.2.2.2.2 + 6 ≤ X.2.2.2) ∧ Q (.inr x.2.2.2.1.1) (S.1, S.2.1, S.2.2.1, S.2.2.2.1, S.2.2.2.2.1 + 1, S.2.2.2.2.2 + 6)) st
  | .newarray _ => mj_pI (fun n r => ¬ n < 0 ∧ mj_new X (fun q S' => K lv (.ref q :: r) S') (1000 + x.2.2.2.1.2.2) n.toNatClampNeg S) st
  | .invokestatic _ => mj_iv hd cl nx Q x.1 x.2.2.2.1.1 x.2.2.2.1.2.1 K lv st S
  | .invokevirtual _ => match x.2.2.2.1.2.2 with
    | 999 => mj_iv hd cl nx Q x.1 x.2.2.2.1.1 x.2.2.2.1.2.1 K lv st S
    | t => mj_ir hd cl nx Q x.1 x.2.2.2.1.1 x.2.2.2.1.2.1 t K lv st S
  | .invokespecial _ => match x.2.2.2.1.2.2 with
    | 0 => mj_ip hd cl nx Q x.1 x.2.2.2.1.1 x.2.2.2.1.2.1 K lv st S
    | _ => mj_pR (fun _ r => mj_p0 (K lv [] S) r) st
  | .checkcast _ => mj_pR (fun o r => mj_so (fun _ => K lv (.ref o :: r) S) (mj_ar S.1 o 0)) st
  | .ireturn => mj_pI (fun v r => mj_p0 (match x.2.2.2.1.2.2 with
    | 0 => Q (.inl (some (.int v))) S
    | _ => (v = 0 ∨ v = 1) ∧ Q (.inl (some (.int v))) S) r) st
  | .return_ => mj_p0 (Q (.inl none) S) st
  | _ => False
/-- a row of instructions; it goes on at e behind the last one -/
def mj_rb (X : mj_X) (hd : mj_H) (cl : mj_C) (nx : mj_N) (Q : mj_Q) (e : Nat) : List mj_I → mj_K
  | [] => fun lv st S => nx e lv st S Q
  | x :: is => mj_in X hd cl nx Q x (mj_rb X hd cl nx Q e is)
/-- the locals that are still read -/
def mj_mk : List Bool → mj_LV → mj_LV
  | b :: bs, v :: vs => (if b then v else none) :: mj_mk bs vs
  | _, _ => []
/-- a block: its pc, the locals that are live there, its instructions, the pc behind them -/
abbrev mj_B : Type := Nat × List Bool × List mj_I × Nat
def mj_bk : List mj_B → Nat → Option mj_B
  | [], _ => none
  | b :: r, pc => if b.1 = pc then some b else mj_bk r pc
def mj_at (X : mj_X) (hd : mj_H) (cl : mj_C) (T : List mj_B) (nx : mj_N) (pc : Nat) (lv : mj_LV) (st : List Value) (S : mj_S) (Q : mj_Q) : Prop :=
  mj_so (fun b => mj_rb X hd cl nx Q b.2.2.2 b.2.2.1 (mj_mk b.2.1 lv) st S) (mj_bk T pc)
/-- from this pc on the method ends, with Q: the least such -/
def mj_rn (X : mj_X) (hd : mj_H) (cl : mj_C) (T : List mj_B) : mj_N := fun pc lv st S Q => ∀ P : mj_N, (∀ pc lv st S Q, mj_at X hd cl T P pc lv st S Q → P pc lv st S Q) → P pc lv st S Q
def mj_en : List Value → mj_LV
  | [] => []
  | .long x :: r => some (.long x) :: none :: mj_en r
  | .double x :: r => some (.double x) :: none :: mj_en r
  | v :: r => some v :: mj_en r
/-- a method: how many locals, its handlers (from, to, handler, class, the local, the pc behind the store), its blocks -/
abbrev mj_M : Type := Nat × List (Nat × Nat × Nat × Nat × Nat × Nat) × List mj_B
def mj_hd : List (Nat × Nat × Nat × Nat × Nat × Nat) → mj_H
  | [], _ => none
  | (f, t, _, c, i, h) :: r, pc => if f ≤ pc ∧ pc < t then some (c, i, h) else mj_hd r pc
def mj_call (X : mj_X) (P : List mj_M) (bi : mj_C) : Nat → mj_C
  | 0, _, _, _, _ => False
  | d + 1, M, as, S, Q => if 900 ≤ M then bi M as S Q else
    mj_so (fun z => mj_tt (mj_rn X (mj_hd z.2.1) (mj_call X P bi d) z.2.2 0 (mj_en as ++ List.replicate (z.1 - (mj_en as).length) none) [] S Q) (Nat.ble (mj_en as).length z.1)) P[M]?
