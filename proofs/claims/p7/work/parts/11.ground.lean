/-! GROUND: what holds all through a method's body -/
theorem mj_pI_sp {f : Int32 → List Value → Prop} : ∀ {st : List Value}, mj_pI f st → ∃ x r, st = .int x :: r ∧ f x r
  | .int x :: r, q => ⟨x, r, rfl, q⟩
theorem mj_pL_sp {f : Int64 → List Value → Prop} : ∀ {st : List Value}, mj_pL f st → ∃ x r, st = .long x :: r ∧ f x r
  | .long x :: r, q => ⟨x, r, rfl, q⟩
theorem mj_pR_sp {f : Nat → List Value → Prop} : ∀ {st : List Value}, mj_pR f st → ∃ x r, st = .ref x :: r ∧ f x r
  | .ref x :: r, q => ⟨x, r, rfl, q⟩
theorem mj_pV_sp {f : Value → List Value → Prop} : ∀ {st : List Value}, mj_pV f st → ∃ v r, st = v :: r ∧ v.category = 1 ∧ f v r
  | v :: r, q => ⟨v, r, rfl, q.1, q.2⟩
theorem mj_p0_sp {f : Prop} : ∀ {st : List Value}, mj_p0 f st → st = [] ∧ f
  | [], q => ⟨rfl, q⟩
theorem mj_gI_sp {f : Int32 → Prop} : ∀ {v : Option Value}, mj_gI f v → ∃ x, v = some (.int x) ∧ f x
  | some (.int x), q => ⟨x, rfl, q⟩
theorem mj_gL_sp {f : Int64 → Prop} : ∀ {v : Option Value}, mj_gL f v → ∃ x, v = some (.long x) ∧ f x
  | some (.long x), q => ⟨x, rfl, q⟩
theorem mj_gA_sp {f : Value → Prop} : ∀ {v : Option Value}, mj_gA f v → (∃ x, v = some (.ref x) ∧ f (.ref x)) ∨ (v = some .null ∧ f .null)
  | some (.ref x), q => Or.inl ⟨x, rfl, q⟩
  | some .null, q => Or.inr ⟨rfl, q⟩
theorem mj_tt_sp {f : Prop} : ∀ {b : Bool}, mj_tt f b → b = true ∧ f
  | true, q => ⟨rfl, q⟩
theorem mj_so_sp {α : Type} {f : α → Prop} : ∀ {b : Option α}, mj_so f b → ∃ x, b = some x ∧ f x
  | some x, q => ⟨x, rfl, q⟩
theorem mj_ob_sp {sh : List (Nat × Nat)} {o c b : Nat} (h : mj_ob sh o c b = true) : ∃ n, sh[o]? = some (c, n) ∧ b < n := by
  unfold mj_ob at h
  split at h
  · rename_i k n hk
    rw [Bool.and_eq_true, beq_iff_eq] at h
    exact ⟨n, by rw [hk, h.1], Nat.blt_eq.mp h.2⟩
  · cases h
theorem mj_rc_sp {f : Prop} {sh : List (Nat × Nat)} {c : Nat} : ∀ {as : List Value}, mj_rc f sh c as → ∃ o r n, as = .ref o :: r ∧ sh[o]? = some (c, n) ∧ f
  | .ref o :: r, q => by
    obtain ⟨h1, h2⟩ := mj_tt_sp q
    split at h1
    · rename_i k n hk
      exact ⟨o, r, n, rfl, by rw [hk, beq_iff_eq.mp h1], h2⟩
    · cases h1
theorem mj_ar_sp {sh : List (Nat × Nat)} {o t n : Nat} (h : mj_ar sh o t = some n) : sh[o]? = some (1000 + t, n) := by
  unfold mj_ar at h
  split at h
  · rename_i k n' hk
    split at h
    · rename_i hk2
      cases h
      rw [hk, hk2]
    · cases h
  · cases h
theorem mj_tk_sp : ∀ (n : Nat) (acc st : List Value) (as r : List Value), mj_tk n acc st = some (as, r) → ∃ bs, st = bs ++ r ∧ bs.length = n ∧ as = bs.reverse ++ acc
  | 0, acc, st, as, r, h => by
    simp only [mj_tk, Option.some.injEq, Prod.mk.injEq] at h
    exact ⟨[], by rw [h.2]; rfl, rfl, by rw [← h.1]; rfl⟩
  | n + 1, acc, [], as, r, h => by simp [mj_tk] at h
  | n + 1, acc, v :: st, as, r, h => by
    obtain ⟨bs, h1, h2, h3⟩ := mj_tk_sp n (v :: acc) st as r h
    exact ⟨v :: bs, by rw [h1]; rfl, by rw [List.length_cons, h2], by rw [h3]; simp⟩
theorem mj_wT.head {n : Nat} {v : Value} {r : List Value} (h : mj_wT n (v :: r)) : mj_wv n v := h v List.mem_cons_self
theorem mj_wT.tail {n : Nat} {v : Value} {r : List Value} (h : mj_wT n (v :: r)) : mj_wT n r := fun w hw => h w (List.mem_cons_of_mem _ hw)
theorem mj_wT.push {n : Nat} {v : Value} {r : List Value} (h : mj_wT n r) (hv : mj_wv n v) : mj_wT n (v :: r) := fun w hw => by
  rcases List.mem_cons.mp hw with rfl | hw
  · exact hv
  · exact h w hw
theorem mj_wr.up {n n' q : Nat} (h : mj_wr n q) (hn : n ≤ n') : mj_wr n' q := h.imp (fun h => Nat.lt_of_lt_of_le h hn) id
theorem mj_wv.up {n n' : Nat} {v : Value} (h : mj_wv n v) (hn : n ≤ n') : mj_wv n' v := by
  cases v <;> first | exact mj_wr.up h hn | trivial
theorem mj_wT.up {n n' : Nat} {st : List Value} (h : mj_wT n st) (hn : n ≤ n') : mj_wT n' st := fun v hv => (h v hv).up hn
theorem mj_wL.up {n n' : Nat} {lv : mj_LV} (h : mj_wL n lv) (hn : n ≤ n') : mj_wL n' lv := fun i v hv => (h i v hv).up hn
theorem mj_tr_ad {n : Nat} {ad ad' : Nat → Nat} {v : Value} (h : mj_wv n v) (ha : ∀ q, mj_wr n q → ad' q = ad q) : mj_tr ad' v = mj_tr ad v := by
  cases v <;> simp_all [mj_tr, mj_wv]
theorem mj_map_ad {n : Nat} {ad ad' : Nat → Nat} {st : List Value} (h : mj_wT n st) (ha : ∀ q, mj_wr n q → ad' q = ad q) : st.map (mj_tr ad') = st.map (mj_tr ad) := List.map_congr_left fun v hv => mj_tr_ad (h v hv) ha
/-- the kinds of arrays, by their places -/
def mj_tys (ka : Nat → ClassId) : List (ClassId × FieldType) := [(ka 0, .int), (ka 1, .long), (ka 2, .char), (ka 3, .boolean), (ka 4, .byte)]
/-- the heap holds the store: D cl ft ka B are of the whole claim; s is the method's start, E its store, aE its addresses -/
def mj_Rh (D : va_G) (cl : List vw_C) (ft : Nat → Nat → Nat) (ka : Nat → ClassId) (B : Nat) (s : State) (E : mj_S) (aE : Nat → Nat) (ad : Nat → Nat) (S : mj_S) (H : Heap) (locs : List Loc) (cells slots : Nat) : Prop :=
  va_P D cl (mj_ws ft ka ad S) H ∧ va_D (fun q => B ≤ q) (mj_ws ft ka ad S) ∧ va_S (fun q => B ≤ q) s.heap H locs ∧ mj_wS S ∧ (E.1.length ≤ S.1.length ∧ ∀ q, mj_wr E.1.length q → ad q = aE q) ∧ S.2.2.2.2.1 = E.2.2.2.2.1 + cells ∧ S.2.2.2.2.2 = E.2.2.2.2.2 + slots
theorem mj_wcons {p : Program} {l : Launch} {e : Env} {R : Room} {s : State} {m : MethodId} {args : Array Value} {below : List Frame} {meth : Method} {c : Code} {H : Heap} {locs : List Loc} {cells slots : Nat} {Q Q' : State → Prop} {g : JFrame}
    (k : W p l e R s m args below meth c H locs cells slots Q g) (h : ∀ t, Q t → Q' t) : W p l e R s m args below meth c H locs cells slots Q' g := by
  intro T hT X
  obtain ⟨t, a, b⟩ := k T hT X
  exact ⟨t, a, h t b⟩
/-- a throw's own words: class, chain, the String's entry -/
def mj_ex : Nat → String
  | 500 => "java/lang/IllegalStateException"
  | 501 => "java/lang/IllegalArgumentException"
  | _ => "java/lang/IndexOutOfBoundsException"
/-- what an instruction's numbers must be; Wd: the words that hold; own: the class; nL: the locals; ini: a constructor -/
def mj_iok (Wd : Cond → Prop) (cl : List vw_C) (ft : Nat → Nat → Nat) (own : String) (nL : Nat) (ini : Prop) (rt : Option FieldType) (x : mj_I) : Prop :=
  match x.2.1 with
  | .iconst n => x.2.2.1 = 1 ∧ Int32.ofInt n = x.2.2.2.2.1
  | .bipush n => x.2.2.1 = 2 ∧ (Int8.ofInt n).toInt32 = x.2.2.2.2.1
  | .sipush n => x.2.2.1 = 3 ∧ (Int16.ofInt n).toInt32 = x.2.2.2.2.1
  | .ldc i => x.2.2.1 = 2 ∧ ((x.2.2.2.1.2.2 = 0 ∧ Wd (.constant own i x.2.2.2.2.1)) ∨ (x.2.2.2.1.2.2 ≠ 0 ∧ 900000 ≤ x.2.2.2.1.1))
  | .ldc_w i => x.2.2.1 = 3 ∧ Wd (.constant own i x.2.2.2.2.1)
  | .lconst n => x.2.2.1 = 1 ∧ Int64.ofNat (n : Nat) = x.2.2.2.2.2.1
  | .ldc2_w i => x.2.2.1 = 3 ∧ Wd (.constantLong own i x.2.2.2.2.2.1)
  | .iload i => x.2.2.1 = 2 ∧ x.2.2.2.1.1 = i
  | .iload_n i => x.2.2.1 = 1 ∧ x.2.2.2.1.1 = (i : Nat)
  | .lload i => x.2.2.1 = 2 ∧ x.2.2.2.1.1 = i
  | .lload_n i => x.2.2.1 = 1 ∧ x.2.2.2.1.1 = (i : Nat)
  | .aload i => x.2.2.1 = 2 ∧ x.2.2.2.1.1 = i
  | .aload_n i => x.2.2.1 = 1 ∧ x.2.2.2.1.1 = (i : Nat)
  | .istore i => (x.2.2.1 = 2 ∧ x.2.2.2.1.1 = i) ∧ i < nL
  | .istore_n i => (x.2.2.1 = 1 ∧ x.2.2.2.1.1 = (i : Nat)) ∧ (i : Nat) < nL
  | .lstore i => (x.2.2.1 = 2 ∧ x.2.2.2.1.1 = i) ∧ i + 1 < nL
  | .lstore_n i => (x.2.2.1 = 1 ∧ x.2.2.2.1.1 = (i : Nat)) ∧ (i : Nat) + 1 < nL
  | .astore i => (x.2.2.1 = 2 ∧ x.2.2.2.1.1 = i) ∧ i < nL
  | .astore_n i => (x.2.2.1 = 1 ∧ x.2.2.2.1.1 = (i : Nat)) ∧ (i : Nat) < nL
  | .iinc i n => (x.2.2.1 = 3 ∧ x.2.2.2.1.1 = i ∧ Int32.ofInt n = x.2.2.2.2.1) ∧ i < nL
  | .ifCond _ off => x.2.2.1 = 3 ∧ (x.1 : Int) + off = (x.2.2.2.1.1 : Int)
  | .if_icmp _ off => x.2.2.1 = 3 ∧ (x.1 : Int) + off = (x.2.2.2.1.1 : Int)
  | .goto off => x.2.2.1 = 3 ∧ (x.1 : Int) + off = (x.2.2.2.1.1 : Int)
  | .tableswitch d lo hi offs => (x.1 : Int) + d = (x.2.2.2.1.1 : Int) ∧ offs.size = x.2.2.2.2.2.2.length ∧ hi = lo + offs.size - 1 ∧ ∀ j, j < offs.size → (∃ o k t, offs[j]? = some o ∧ x.2.2.2.2.2.2[j]? = some (k, t) ∧ k.toInt = lo + j ∧ (x.1 : Int) + o = (t : Int))
  | .lookupswitch d ps => (x.1 : Int) + d = (x.2.2.2.1.1 : Int) ∧ (ps.toList.zip (ps.toList.drop 1)).all (fun (a, next) => a.1 < next.1) = true ∧ ps.toList = x.2.2.2.2.2.2.map fun q => (q.1.toInt, (q.2 : Int) - (x.1 : Int))
  | .getfield i => x.2.2.1 = 3 ∧ ∃ C T N, cl[x.2.2.2.1.1]? = some (C, T, N) ∧ x.2.2.2.1.2.1 < N ∧ Wd (.fieldLink own i (T x.2.2.2.1.2.1).1 (T x.2.2.2.1.2.1).2.1 (T x.2.2.2.1.2.1).2.2.1) ∧ ((x.2.2.2.1.2.2 = 0 ∧ ft x.2.2.2.1.1 x.2.2.2.1.2.1 ≠ 2) ∨ (x.2.2.2.1.2.2 ≠ 0 ∧ ft x.2.2.2.1.1 x.2.2.2.1.2.1 = 2))
  | .putfield i => x.2.2.1 = 3 ∧ ∃ C T N ty, cl[x.2.2.2.1.1]? = some (C, T, N) ∧ x.2.2.2.1.2.1 < N ∧ Wd (.fieldLink own i (T x.2.2.2.1.2.1).1 (T x.2.2.2.1.2.1).2.1 (T x.2.2.2.1.2.1).2.2.1) ∧ ((T x.2.2.2.1.2.1).2.2.2 = false ∨ ((T x.2.2.2.1.2.1).2.2.2 = true ∧ ini ∧ (T x.2.2.2.1.2.1).1 = own)) ∧ parseFieldDescriptor (T x.2.2.2.1.2.1).2.2.1 = some ty ∧
      ((x.2.2.2.1.2.2 = 0 ∧ ty = .int ∧ ft x.2.2.2.1.1 x.2.2.2.1.2.1 ≠ 2) ∨ (x.2.2.2.1.2.2 = 2 ∧ ((∃ n, ty = .object n) ∨ ∃ t, ty = .array t) ∧ ft x.2.2.2.1.1 x.2.2.2.1.2.1 = 2) ∨ (x.2.2.2.1.2.2 = 3 ∧ ty = .boolean ∧ ft x.2.2.2.1.1 x.2.2.2.1.2.1 ≠ 2))
  | .new i => x.2.2.1 = 3 ∧ (x.2.2.2.1.2.2 ≠ 0 ∨ (x.2.2.2.1.2.2 = 0 ∧ ∃ C T, cl[x.2.2.2.1.1]? = some (C, T, x.2.2.2.1.2.1) ∧ Wd (.classLink own i C) ∧ Wd (.instantiable C x.2.2.2.1.2.1) ∧ Wd (.initialized C)))
  | .newarray ty => x.2.2.1 = 2 ∧ ((x.2.2.2.1.2.2 = 0 ∧ ty = .int) ∨ (x.2.2.2.1.2.2 = 1 ∧ ty = .long) ∨ (x.2.2.2.1.2.2 = 2 ∧ ty = .char) ∨ (x.2.2.2.1.2.2 = 3 ∧ ty = .boolean) ∨ (x.2.2.2.1.2.2 = 4 ∧ ty = .byte)) ∧ Wd (.arrayClass (newarray.typeOf ty))
  | .checkcast i => x.2.2.1 = 3 ∧ Wd (.classLink own i "[I")
  | .invokestatic _ => x.2.2.1 = 3
  | .invokevirtual _ => x.2.2.1 = 3
  | .invokespecial i => x.2.2.1 = 3 ∧ (x.2.2.2.1.2.2 = 0 ∨ (x.2.2.2.1.2.2 ≠ 0 ∧ Wd (.methodLink own i objectInit) ∧ Wd (.instanceMethod objectInit) ∧ Wd (.code objectInit ⟨#[0xb1]⟩ 1 none)))
  | .ireturn => x.2.2.1 = 1 ∧ ((x.2.2.2.1.2.2 = 0 ∧ rt = some .int) ∨ (x.2.2.2.1.2.2 ≠ 0 ∧ rt = some .boolean))
  | .return_ => x.2.2.1 = 1 ∧ rt = none
  | _ => x.2.2.1 = 1
