/-! THE JDK's METHODS: their words -/
def mj_JD : List mj_D := [(⟨"java/lang/String", "length", "()I"⟩, prog_21_method_54_code, 1, some .int, []),
  (⟨"java/lang/String", "charAt", "(I)C"⟩, prog_21_method_56_code, 2, some .char, []),
  (⟨"java/lang/String", "coder", "()B"⟩, prog_21_method_152_code, 1, some .byte, []),
  (⟨"java/lang/String", "isLatin1", "()Z"⟩, prog_21_method_154_code, 1, some .boolean, []),
  (⟨"java/lang/String", "checkIndex", "(II)V"⟩, prog_21_method_155_code, 2, none, []),
  (⟨"java/lang/StringLatin1", "charAt", "([BI)C"⟩, prog_22_method_2_code, 2, some .char, []),
  (⟨"jdk/internal/util/Preconditions", "checkIndex", "(IILjava/util/function/BiFunction;)I"⟩, prog_26_method_11_code, 3, some .int, [])]
def mj_JDh : List Nat := [172, 182, 176, 186, 192, 189, 197]
def mj_JW : List Cond := [.fieldLink "java/lang/String" 9 "java/lang/String" "value" "[B",
  .fieldLink "java/lang/String" 15 "java/lang/String" "coder" "B",
  .fieldLink "java/lang/String" 38 "java/lang/String" "COMPACT_STRINGS" "Z",
  .fieldLink "java/lang/String" 1053 "jdk/internal/util/Preconditions" "SIOOBE_FORMATTER" "Ljava/util/function/BiFunction;",
  .methodLink "java/lang/String" 335 ⟨"java/lang/String", "coder", "()B"⟩,
  .methodLink "java/lang/String" 492 ⟨"java/lang/String", "isLatin1", "()Z"⟩,
  .methodLink "java/lang/String" 495 ⟨"java/lang/StringLatin1", "charAt", "([BI)C"⟩,
  .methodLink "java/lang/StringLatin1" 9 ⟨"java/lang/String", "checkIndex", "(II)V"⟩,
  .methodLink "java/lang/String" 1059 ⟨"jdk/internal/util/Preconditions", "checkIndex", "(IILjava/util/function/BiFunction;)I"⟩,
  .instanceMethod ⟨"java/lang/String", "coder", "()B"⟩,
  .instanceMethod ⟨"java/lang/String", "isLatin1", "()Z"⟩,
  .instanceMethod ⟨"java/lang/String", "length", "()I"⟩,
  .instanceMethod ⟨"java/lang/String", "charAt", "(I)C"⟩,
  .instanceMethod ⟨"java/lang/Object", "clone", "()Ljava/lang/Object;"⟩,
  .selects "java/lang/String" ⟨"java/lang/String", "coder", "()B"⟩ ⟨"java/lang/String", "coder", "()B"⟩,
  .selects "java/lang/String" ⟨"java/lang/String", "isLatin1", "()Z"⟩ ⟨"java/lang/String", "isLatin1", "()Z"⟩,
  .selects "java/lang/String" ⟨"java/lang/String", "length", "()I"⟩ ⟨"java/lang/String", "length", "()I"⟩,
  .selects "java/lang/String" ⟨"java/lang/String", "charAt", "(I)C"⟩ ⟨"java/lang/String", "charAt", "(I)C"⟩,
  .static ⟨"java/lang/StringLatin1", "charAt", "([BI)C"⟩,
  .static ⟨"java/lang/String", "checkIndex", "(II)V"⟩,
  .static ⟨"jdk/internal/util/Preconditions", "checkIndex", "(IILjava/util/function/BiFunction;)I"⟩,
  .static ⟨"java/lang/Math", "abs", "(I)I"⟩,
  .static ⟨"java/lang/Math", "max", "(II)I"⟩,
  .static ⟨"java/lang/System", "arraycopy", "(Ljava/lang/Object;ILjava/lang/Object;II)V"⟩,
  .initialized "java/lang/String",
  .initialized "java/lang/StringLatin1",
  .initialized "jdk/internal/util/Preconditions",
  .initialized "java/lang/Math",
  .initialized "java/lang/System",
  .sameMethod "[I" "java/lang/Object" "clone" "()Ljava/lang/Object;",
  .native ⟨"java/lang/Object", "clone", "()Ljava/lang/Object;"⟩,
  .native ⟨"java/lang/System", "arraycopy", "(Ljava/lang/Object;ILjava/lang/Object;II)V"⟩,
  .selects "[I" ⟨"[I", "clone", "()Ljava/lang/Object;"⟩ ⟨"java/lang/Object", "clone", "()Ljava/lang/Object;"⟩]
def mj_JWh : List Nat := [1556, 1557, 177, 193, 173, 183, 187, 190, 195, 174, 184, 170, 180, 224, 175, 185, 171, 181, 188, 191, 196, 883, 890, 629, 111, 112, 113, 130, 127, 222, 223, 630, 225]
theorem mj_JWok : mj_zc id mj_JW mj_JWh = true := by decide +kernel
theorem mj_jw {w : Cond} (k : Nat) (h : mj_JW[k]? = some w) : mj_Wd w := mj_zc_wd (f := id) mj_JWok w (List.mem_of_getElem? h)
def mj_jc : List mj_D → List Nat → Bool
  | y :: ys, h :: hs => decide (lw_tbl[h]? = some (.code y.1 y.2.1 y.2.2.1 y.2.2.2.1)) && decide (y.2.2.2.2 = []) && mj_jc ys hs
  | [], [] => true
  | _, _ => false
theorem mj_JDok : mj_jc mj_JD mj_JDh = true := by decide +kernel
theorem mj_jc_wd : ∀ {ys : List mj_D} {hs : List Nat}, mj_jc ys hs = true → ∀ y ∈ ys, mj_Wd2 (mj_cw y)
  | y :: ys, h :: hs, z, x, hx => by
    unfold mj_jc at z
    simp only [Bool.and_eq_true, decide_eq_true_eq] at z
    rcases List.mem_cons.mp hx with rfl | hx
    · refine Or.inr ⟨_, _, _, _, ?_, List.mem_of_getElem? z.1.1⟩
      unfold mj_cw
      rw [z.1.2]
    · exact mj_jc_wd z.2 x hx
theorem mj_jd {y : mj_D} (k : Nat) (h : mj_JD[k]? = some y) : mj_Wd2 (mj_cw y) := mj_jc_wd mj_JDok y (List.mem_of_getElem? h)
/-! METHODS THAT ONLY READ -/
def mj_PuQ (v : Option Value) (st : State) (o : Outcome) (t : State) : Prop := o = .returned v ∧ st.WarmedH t.vm ∧ t.heap = st.heap ∧ st.sameButNew ({ t with vm := st.vm } : State) [] 0 0
def mj_PuZ (below : List Frame) (s : State) (v : Option Value) (t : State) : Prop := ∃ o, t.status = .running ∧ Ended t below o ∧ mj_PuQ v s o t
def mj_pr (fr lo : Nat) : Room := { frames := fr, cells := 0, slots := 0, locals := lo }
def mj_Pu (l : Launch) (s0 : State) (y : mj_D) (fr lo : Nat) (as : List Value) (v : Option Value) : Prop :=
  MetFree l y.1 (headSpec [mj_cw y] (mj_pr fr lo)) (fun a U => a = as.toArray ∧ mj_Cst s0 U) (fun _ _ _ _ _ => True) (fun _ st o t => mj_PuQ v st o t)
theorem mj_pu_body {l : Launch} {s0 : State} {y : mj_D} {fr lo : Nat} {as : List Value} {v : Option Value} (hy : plainName y.1.cls = true)
    (hT : ∀ (p : Program) (e : Env) (s : State) (m : MethodId) (below : List Frame) (meth : Method) (c : Code), p.tables.exec = Jvm.exec → c.code = y.2.1 → c.maxLocals = y.2.2.1 → s.vm.findClass y.1.cls = some m.cls → meth.locks = false → meth.sig.returnType = y.2.2.2.1 → mj_Cst s0 s →
      W p l e (mj_pr fr lo) s m as.toArray below meth c s.heap [] 0 0 (mj_PuZ below s v) (F0 m 0 ((lg_sl as ++ List.replicate (y.2.2.1 - (lg_sl as).length) Slot.unset).toArray) [])) : mj_Pu l s0 y fr lo as v := by
  refine MetFree.of_bodyS (code := y.2.1) (maxLocals := y.2.2.1) (ret := y.2.2.2.1) hy ?_ ?_
  · intro args s m h hn
    obtain ⟨m9, meth, c, hn9, h1, h2, h3, h4, -, h5, h6, -⟩ := Cond.codeWith_spec (atoms_spec (ws := [mj_cw y]) h (mj_cw y) List.mem_cons_self)
    cases hn.symm.trans hn9
    exact ⟨meth, c, h1, h2, h3, h4, h5, h6⟩
  · intro p e s m args below meth c s₁ B hml hP _
    obtain ⟨rfl, hC⟩ := hP
    have hh0 : s₁.heap = s.heap := by rw [B.state]; rfl
    have X0 := Stand.of_body B
    have K := hT p e s m below meth c B.exec B.bytes hml (findClass_of_methodNamed B.named) B.notSynchronized B.returns hC
    rw [← lg_entry_eq] at K
    obtain ⟨t, a1, o, b1, b2, b3⟩ := K s₁ hh0 X0
    exact ⟨t, o, a1, b1, b2, b3⟩
section MJPU
variable {p : Program} {l : Launch} {e : Env} {R : Room} {s s0 : State} {m : MethodId} {args : Array Value} {below : List Frame} {meth : Method} {c : Code} {H : Heap} {locs : List Loc} {cells slots : Nat} {Z : State → Prop}
variable {cc : ByteArray} {pc : Nat} {ls : Array Slot} {st rest : List Value}
theorem mj_pu_ret {v : Int32} {ty : FieldType} (hx : p.tables.exec = Jvm.exec) (hb : c.code = cc) (hr : meth.sig.returnType = some ty) (hn : narrow ty (.int v) = .int v) (hlk : meth.locks = false) (hdec : decode cc pc = .ok (.ireturn, 1)) : W p l e R s m args below meth c s.heap [] 0 0 (mj_PuZ below s (some (.int v))) (F0 m pc ls [.int v]) := by
  refine mj_wcons (W.zret (Qc := fun _ st o t => o = .returned (some (.int v)) ∧ t.heap = s.heap) (free := fun _ => False) hx hb hr hn (fun t ht _ => ⟨rfl, ht⟩) (fun _ h => by cases h) hdec hlk) ?_
  rintro t ⟨o, w1, w2, ⟨rfl, w4⟩, L, ⟨-, w5, w6⟩, w7⟩
  have : L = [] := by
    cases L with
    | nil => rfl
    | cons a b => exact (w7 a List.mem_cons_self).elim
  subst this
  exact ⟨_, w1, w2, rfl, w5, w4, w6⟩
theorem mj_pu_vret (hx : p.tables.exec = Jvm.exec) (hb : c.code = cc) (hr : meth.sig.returnType = none) (hlk : meth.locks = false) (hdec : decode cc pc = .ok (.return_, 1)) : W p l e R s m args below meth c s.heap [] 0 0 (mj_PuZ below s none) (F0 m pc ls []) := by
  refine mj_wcons (W.vret (Qc := fun _ _ o t => o = .returned none ∧ t.heap = s.heap) (free := fun _ => False) hx hb hr (fun t ht _ => ⟨rfl, ht⟩) (fun _ h => by cases h) hdec hlk) ?_
  rintro t ⟨o, w1, w2, ⟨rfl, w4⟩, L, ⟨-, w5, w6⟩, w7⟩
  have : L = [] := by
    cases L with
    | nil => rfl
    | cons a b => exact (w7 a List.mem_cons_self).elim
  subst this
  exact ⟨_, w1, w2, rfl, w5, w4, w6⟩
theorem mj_pu_call {y : mj_D} {fr lo : Nat} {as : List Value} {v : Option Value} {ig : Instr} (hM : mj_Pu l s0 y fr lo as v) (hb : c.code = cc) (hml : c.maxLocals = ls.size) (hC : mj_Cst s0 s) (hS : va_S (fun q => s0.heap.size ≤ q) s.heap H locs) (hdec : decode cc pc = .ok (ig, 3))
    (hcw : (mj_cw y).before args s = true) (hini : (Cond.initialized y.1.cls).before args s = true) (hwg : (rest.map fun v => v.category).sum ≤ 8) (hfr : fr + 1 ≤ R.frames) (hlo : 8 + (y.2.2.1 + 11) + lo ≤ R.locals) (hce : cells ≤ R.cells) (hsl : slots ≤ R.slots)
    (hE : ∀ T : State, T.heap = H → Stand p l e R s m args below meth c T locs cells slots → mj_Ent p l e R s m args below meth c T locs cells slots y.1 (F0 m pc ls st) rest as.toArray)
    (kk : W p l e R s m args below meth c H locs cells slots Z (F0 m (pc + 3) ls (v.toList ++ rest))) : W p l e R s m args below meth c H locs cells slots Z (F0 m pc ls st) := by
  intro T hT XT
  obtain ⟨vm₁, mk, X1, hnamed, hstep⟩ := hE T hT XT
  have hCT : mj_Cst s0 (T.setVm vm₁) := hC.on rfl hS hT X1.warmed
  have hcwU : (mj_cw y).before as.toArray (T.setVm vm₁) = true := word_at X1.warmed (good_of_word rfl) hcw
  obtain ⟨m9, methY, cY, hn9, hmY, hcY, -, hlY, -⟩ := Cond.codeWith_spec hcwU
  have hn := X1.named hnamed
  cases hn.symm.trans hn9
  obtain ⟨kY, hkY, -⟩ := className_of_methodNamed hn
  have hiniU : (Cond.initialized y.1.cls).before as.toArray (T.setVm vm₁) = true := word_at X1.warmed (good_of_word rfl) hini
  have hinitY : kY.init = .initialized := Cond.initialized_spec (findClass_of_methodNamed hn) hkY hiniU
  obtain ⟨o, t, hq, hWt, hstand, hback⟩ := mj_back (W := 8) (maxL := y.2.2.1) hM (fun a st o t q => ⟨q.2.1, [], 0, 0, q.2.2.2⟩) X1 (g := F0 m pc ls rest) (ig := ig) (len := 3) rfl (by rw [hml]) (by rw [hb]; exact hdec)
    (by show 2 * 0 + (rest.map fun v => v.category).sum ≤ 8; omega) hn hmY hcY hlY hkY hinitY hfr hlo (by show cells + 0 ≤ _; omega) (by show slots + 0 ≤ _; omega)
    (atoms_intro (fun w hw => by rw [List.mem_singleton.mp hw]; exact hcwU)) ⟨rfl, hCT⟩
  obtain ⟨rfl, q2, q3, q4⟩ := hq
  have X2 := hstand [] 0 0 q4
  rw [List.append_nil] at X2
  have hh : t.heap = H := q3.trans hT
  obtain ⟨tz, z1, z2⟩ := kk (({ T.setVm vm₁ with heap := t.heap, slotsUsed := t.slotsUsed } : State).setVm t.vm) hh X2
  exact ⟨tz, hstep _ (Steps.trans hback z1), z2⟩
end MJPU
