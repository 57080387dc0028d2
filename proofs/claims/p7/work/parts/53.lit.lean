/-! LITERAL SHAPES, and the JDK's few methods in the mini machine -/
def mj_kc (sh : List (Nat × Nat)) (o c : Nat) : Bool := match sh[o]? with
  | some (k, _) => k == c
  | none => false
theorem mjs_lit : (∀ (f : Prop) (sh : List (Nat × Nat)) (c o : Nat) (r : List Value), mj_rc f sh c (.ref o :: r) = mj_tt f (mj_kc sh o c)) ∧
  (∀ (x : Nat × Nat) (r : List (Nat × Nat)) (n c : Nat), mj_kc (x :: r) (n + 1) c = mj_kc r n c) ∧
  (∀ (k m : Nat) (r : List (Nat × Nat)) (c : Nat), mj_kc ((k, m) :: r) 0 c = (k == c)) ∧
  (∀ (x : Nat × Nat) (r : List (Nat × Nat)) (n c b : Nat), mj_ob (x :: r) (n + 1) c b = mj_ob r n c b) ∧
  (∀ (k m : Nat) (r : List (Nat × Nat)) (c b : Nat), mj_ob ((k, m) :: r) 0 c b = ((k == c) && Nat.blt b m)) ∧
  (∀ (x : Nat × Nat) (r : List (Nat × Nat)) (n t : Nat), mj_ar (x :: r) (n + 1) t = mj_ar r n t) ∧
  (∀ (k m : Nat) (r : List (Nat × Nat)) (t : Nat), mj_ar ((k, m) :: r) 0 t = if k = 1000 + t then some m else none) ∧
  (∀ (α : Type) (f : Nat → Nat → α) (a j : Nat) (v : α) (b k : Nat), mj_up f a j v b k = if b = a then (if k = j then v else f b k) else f b k) ∧
  (∀ (α : Type) (f : Nat → Nat → α) (a : Nat) (g : Nat → α) (b k : Nat), mj_row f a g b k = if b = a then g k else f b k) ∧
  (∀ (X : mj_X) (K : Nat → mj_S → Prop) (k n : Nat) (sh : List (Nat × Nat)) (I : Nat → Nat → Int32) (Lg : Nat → Nat → Int64) (Rf : Nat → Nat → Option Nat) (nc ns : Nat), mj_new X K k n (sh, I, Lg, Rf, nc, ns) = ((nc + 1 ≤ X.2.2.1 ∧ ns + n ≤ X.2.2.2) ∧ K sh.length (sh ++ [(k, n)], mj_row I sh.length (fun _ => 0), mj_row Lg sh.length (fun _ => 0), mj_row Rf sh.length (fun _ => none), nc + 1, ns + n))) ∧
  (∀ (L : Nat) (xs : Nat → Int32), (mj_X0 L xs).2.2.1 = 601024) ∧ (∀ (L : Nat) (xs : Nat → Int32), (mj_X0 L xs).2.2.2 = 7293034) :=
  ⟨by intros; rfl, by intros; rfl, by intros; rfl, by intros; rfl, by intros; rfl, by intros; rfl, by intros; rfl, by intros; rfl, by intros; rfl, by intros; rfl, by intros; rfl, by intros; rfl⟩
theorem mjs_ttb {f : Prop} {b : Bool} (h : b = true) : mj_tt f b = f := by rw [h]; rfl
theorem mjs_up_c {α : Type} {f : Nat → Nat → α} {a j b k : Nat} {v : α} (h : b ≠ a) : mj_up f a j v b k = f b k := mjs_up_ne (Or.inl h)
section MJJDK
variable {L d o nc ns : Nat} {xs : Nat → Int32} {S : mj_S} {Q : mj_Q} {tx : List Int32} {k : Int32} {sh : List (Nat × Nat)} {I : Nat → Nat → Int32} {Lg : Nat → Nat → Int64} {Rf : Nat → Nat → Option Nat} {X : mj_X}
theorem c_900 {x : Int32} (hQ : Q (.inl (some (.int (if 0 ≤ x then x else 0 - x)))) S) : mj_call X mj_P (mj_bi X) (d + 1) 900 [.int x] S Q := by
  unfold mj_call
  rw [if_pos (by decide)]
  exact hQ
theorem c_901 {x y : Int32} (hQ : Q (.inl (some (.int (if x < y then y else x)))) S) : mj_call X mj_P (mj_bi X) (d + 1) 901 [.int x, .int y] S Q := by
  unfold mj_call
  rw [if_pos (by decide)]
  exact hQ
theorem c_902 {q : Nat} {sp dp n : Int32} {n0 n1 : Nat} (h0 : mj_ar S.1 o 0 = some n0) (h1 : mj_ar S.1 q 0 = some n1) (h : ¬ sp < 0 ∧ ¬ dp < 0 ∧ ¬ n < 0 ∧ sp.toNatClampNeg + n.toNatClampNeg ≤ n0 ∧ dp.toNatClampNeg + n.toNatClampNeg ≤ n1)
    (hQ : Q (.inl none) (S.1, mj_row S.2.1 q (va_cpy (S.2.1 o) (S.2.1 q) sp.toNatClampNeg dp.toNatClampNeg n.toNatClampNeg), S.2.2)) : mj_call X mj_P (mj_bi X) (d + 1) 902 [.ref o, .int sp, .ref q, .int dp, .int n] S Q := by
  unfold mj_call
  rw [if_pos (by decide)]
  show mj_so _ _
  rw [h0]
  show mj_so _ _
  rw [h1]
  exact ⟨h, hQ⟩
theorem c_903 {n : Nat} (h0 : mj_ar S.1 o 0 = some n) (hr : S.2.2.2.2.1 + 1 ≤ X.2.2.1 ∧ S.2.2.2.2.2 + n ≤ X.2.2.2)
    (hQ : Q (.inl (some (.ref S.1.length))) (S.1 ++ [(1000, n)], mj_row S.2.1 S.1.length (S.2.1 o), mj_row S.2.2.1 S.1.length (fun _ => 0), mj_row S.2.2.2.1 S.1.length (fun _ => none), S.2.2.2.2.1 + 1, S.2.2.2.2.2 + n)) : mj_call X mj_P (mj_bi X) (d + 1) 903 [.ref o] S Q := by
  unfold mj_call
  rw [if_pos (by decide)]
  show mj_so _ _
  rw [h0]
  exact ⟨hr, hQ⟩
theorem c_904 (ho : 900001 ≤ o) (h : X.2.1[o - 900001]? = some tx) (hQ : Q (.inl (some (.int (nI tx.length)))) S) : mj_call X mj_P (mj_bi X) (d + 1) 904 [.ref o] S Q := by
  unfold mj_call
  rw [if_pos (by decide)]
  show mj_so _ _
  rw [h]
  exact ⟨ho, hQ⟩
theorem c_905 (ho : 900001 ≤ o) (h : X.2.1[o - 900001]? = some tx) (hk : vp_in k tx.length) (hQ : Q (.inl (some (.int (tx.getD k.toNatClampNeg 0)))) S) : mj_call X mj_P (mj_bi X) (d + 1) 905 [.ref o, .int k] S Q := by
  unfold mj_call
  rw [if_pos (by decide)]
  show mj_so _ _
  rw [h]
  exact ⟨⟨ho, hk⟩, hQ⟩
end MJJDK
