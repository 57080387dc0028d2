/-! WHAT IS THROWN: caught by a handler of the frame's own; made and thrown by 'new E(text); athrow' -/
section MJT
variable {p : Program} {l : Launch} {e : Env} {R : Room} {s : State} {m : MethodId} {args : Array Value} {below : List Frame} {meth : Method} {c : Code} {T : State} {locs : List Loc} {cells slots : Nat}
/-- the same walk, told from the heap as it is now -/
theorem mj_rebase (X : Stand p l e R s m args below meth c T locs cells slots) {R' : Room} (h1 : R'.frames = R.frames) (h2 : R'.locals = R.locals) (h3 : cells + R'.cells ≤ R.cells) (h4 : slots + R'.slots ≤ R.slots) :
    Stand p l e R' ({ s with heap := T.heap, slotsUsed := T.slotsUsed } : State) m args below meth c T [] 0 0 := by
  have hh := X.same
  have hT := hh.1
  have hsz := X.heapSize
  have hus := X.used
  have hbk := X.book
  have hroom := X.room
  refine ⟨X.admits, X.cas, X.clock, X.frames, ?_, X.hears, X.method, X.code, X.here, X.tail, X.warmed, X.limits, X.bytes, ?_⟩
  · simp only [State.hasRoom, Bool.and_eq_true, decide_eq_true_eq] at hroom ⊢
    obtain ⟨⟨⟨⟨a1, a2⟩, a3⟩, a4⟩, a5⟩ := hroom
    refine ⟨⟨⟨⟨?_, ?_⟩, ?_⟩, ?_⟩, ?_⟩
    · rw [h2]; exact a1
    · rw [h1, h2]; exact a2
    · show T.heap.size + R'.cells ≤ _
      omega
    · show T.slotsUsed + R'.slots ≤ _
      omega
    · exact hbk
  · refine ⟨?_, Nat.le_refl _, Nat.le_refl _, ?_, ?_, ?_⟩
    · exact hT
    · show T.slotsUsed = T.slotsUsed + ((T.heap.toList.drop T.heap.size).map (·.slots.size)).sum
      rw [List.drop_eq_nil_of_le (by simp)]
      rfl
    · show ((T.heap.toList.drop T.heap.size).map (·.slots.size)).sum ≤ 0
      rw [List.drop_eq_nil_of_le (by simp)]
      exact Nat.le_refl _
    · intro a c hc
      exact ⟨c, hc, rfl, rfl, fun _ _ => rfl⟩
theorem mj_stepCatch {S : State} {f : JFrame} {r : List Frame} {a : Addr} {pc : Nat} {vm' : Vm} (hfind : ∀ (Q : Handler → Pre) (E : CtlPost) (d : Bool) (acts : List Action), wp (findHandler f a) Q E e d acts S ↔ Q (.found pc) d acts (S.setVm vm')) :
    (stepThrowing e S a (.java f :: r)).1 = (S.setVm vm').setFrames (.java { f with pc := pc, stack := [.ref a] } :: r) := by
  simp only [stepThrowing, searchFrame, vmDo]
  generalize hr : Sem.go _ e false [] S = res
  obtain ⟨as, rfl, ha⟩ := Sem.eq_ok_of hr (a := Handler.found pc) (s' := S.setVm vm') (acts' := []) (by simp [hfind _ _ _ _])
  rfl
/-- a handler that takes it: its class's entry links -/
theorem mj_caught1 {g : JFrame} {a : Addr} {x : ExceptionTableEntry} {own nm : String} (X : Stand p l e R s m args below meth c T locs cells slots) (hg : g.method = m) (htab : c.exceptionTable.toList = [x]) (hx : covers x g.pc = true) (h0 : x.catchType ≠ 0)
    (hown : s.vm.findClass own = some m.cls) (hlink : (Cond.classLink own x.catchType nm).before args s = true) {cell : Cell} (hcell : T.heap[a]? = some cell) (hobj : cell.vm.isStatics = false) {cN : ClassId} (hN : s.vm.findClass nm = some cN) (hcls : s.vm.assignable cell.cls cN = true) :
    ∃ vm', Stand p l e R s m args below meth c (T.setVm vm') locs cells slots ∧ ∀ target, Steps p.tables e below ((T.setVm vm').setTop { g with pc := x.handlerPc, stack := [.ref a] }) target → Steps p.tables e below ((T.setTop g).pushFrame (.throwing a)) target := by
  have hpl : e.platform.magicAccessors = ({} : Platform).magicAccessors := by rw [X.admits.platform]
  obtain ⟨cN', hN', hl⟩ := Cond.classLink_spec hown hlink e.platform hpl
  cases hN.symm.trans hN'
  obtain ⟨hgv, hwm, hrd⟩ := State.classEntry (e := e) X.warmed hl
  generalize hvm : T.vm.noted m.cls x.catchType (.cls cN) = vm' at hgv hwm hrd
  refine ⟨vm', X.noted hwm, fun target hrest => ?_⟩
  have h : At T g.method c below := by rw [hg]; exact X.here
  obtain ⟨hgo, hw⟩ := h.throwing a
  refine Steps.head hgo hw ?_
  rw [stepThread_throwing (frames_entered h.top _)]
  have hsz : vm'.classes.size ≤ ((T.setTop g).pushFrame (.throwing a)).vm.classes.size := by
    have h1 := hwm.alike.2.1
    have h2 := X.warmed.alike.2.1
    show vm'.classes.size ≤ T.vm.classes.size
    omega
  have hgv : (Jvm.resolveClass m.cls x.catchType).Gives e.toSetting ((T.setTop g).pushFrame (.throwing a)).vm (.ok cN) vm' := hgv
  have hcell : ((T.setTop g).pushFrame (.throwing a)).heap[a]? = some cell := hcell
  have hal : s.vm.Alike vm' := hwm.alike
  have hfind : ∀ (Q : Handler → Pre) (E : CtlPost) (d : Bool) (acts : List Action), wp (findHandler g a) Q E e d acts ((T.setTop g).pushFrame (.throwing a)) ↔ Q (.found x.handlerPc) d acts (((T.setTop g).pushFrame (.throwing a)).setVm vm') := by
    intro Q E d acts
    rw [W.findHandler_eq (s := (T.setTop g).pushFrame (.throwing a)) (meth := meth) (code := c) (by rw [hg]; exact X.method') X.code, htab]
    obtain ⟨ha, ht⟩ := hgv.op (op := VmOp.resolveClass m.cls x.catchType) rfl
    have hfit : vm'.assignable cell.cls cN = true := by rw [hal.assignable]; exact hcls
    have hk2 := Vm.classAt_of_findClass (vm := vm') (name := nm) (c := cN) (by rw [hal.findClass]; exact hN)
    have hk1 := Vm.classAt_of_assignable hfit hk2
    have hobj' := VmData.ne_statics_of hobj
    simp only [covers] at hx
    simp [findHandler.go, hx, h0, hg, ha, ht, hsz, hcell, hobj', hk1, hk2, hfit, VmOp.dirties, VmOp.acts]
  rw [mj_stepCatch hfind]
  obtain ⟨g₀, hg0⟩ := Option.isSome_iff_exists.mp h.top
  obtain ⟨r, hr⟩ := State.topJava?_eq_some.mp hg0
  rw [State.setTop_of_frames _ (show (T.setVm vm').frames = .java g₀ :: r from hr)] at hrest
  rw [State.pushFrame, State.setTop_of_frames _ hr, State.setFrames_setFrames, State.setFrames_setVm, State.setFrames_setFrames, hr]
  exact hrest
end MJT
