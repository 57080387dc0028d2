/-! 'new E; dup; ldc text; invokespecial E.<init>(String); athrow', in a method without handlers there -/
/-- all words of a throw hold at the start -/
def mj_Thr (A : Array Value) (s0 : State) (own : String) (ic : Nat) (cls : String) (names : List String) : Prop :=
  (∀ w ∈ Bundle.ownAtoms own ic cls names, w.before A s0 = true ∧ (goodWord w = true ∨ (w.keepsFace = true ∧ w.onTables = true) ∨ (∃ o n d, w = .laysStatic o n d) ∨ ∃ o n d, w = .isRef (.static o n d) ∧ (Cond.laysStatic o n d).before A s0 = true))
theorem mj_Thr.at {A A' : Array Value} {s0 U : State} {own : String} {ic : Nat} {cls : String} {names : List String} (h : mj_Thr A s0 own ic cls names) (hC : mj_Cst s0 U) : ∀ w ∈ Bundle.ownAtoms own ic cls names, w.before A' U = true := by
  intro w hw
  obtain ⟨hb, h1 | ⟨h1, h2⟩ | ⟨o, n, d, rfl⟩ | ⟨o, n, d, rfl, h1⟩⟩ := h w hw
  · exact mj_keepG hC h1 hb
  · exact mj_keepT hC h1 h2 hb
  · exact mj_keepL hC hb
  · exact mj_keepR hC h1 hb
section MJW
variable {p : Program} {l : Launch} {e : Env} {R : Room} {s s0 : State} {m : MethodId} {args : Array Value} {below : List Frame} {meth : Method} {c : Code} {T : State} {locs : List Loc} {cells slots : Nat}
set_option maxHeartbeats 1000000 in
theorem mj_throw (X : Stand p l e R s m args below meth c T locs cells slots) (hexec : p.tables.exec = Jvm.exec) (htr : e.platform.stackTraces = false) {A : Array Value} {own cls : String} {names : List String} {ic iN iL : Nat} {tx : String} {q0 : Nat}
    (hC : mj_Cst s0 s) (hCT : mj_Cst s0 T) (hown : s.vm.findClass own = some m.cls) (hcls : Bundle.fit cls = true) (hnames : ∀ n ∈ names, Bundle.fit n = true) (hth : mj_Thr A s0 own ic cls names)
    (hclink : (Cond.classLink own iN cls).before args s = true) (hins : (Cond.instantiable cls 6).before args s = true) (hinit : (Cond.initialized cls).before args s = true) (hstr : vk_R own iL tx q0 s)
    {pc : Nat} {ls : Array Slot} {rest : List Value} (hsize : ls.size = c.maxLocals)
    (hd0 : decode c.code pc = .ok (.new iN, 3)) (hd3 : decode c.code (pc + 3) = .ok (.dup, 1)) (hd4 : decode c.code (pc + 4) = .ok (.ldc iL, 2)) (hd6 : decode c.code (pc + 6) = .ok (.invokespecial ic, 3)) (hd9 : decode c.code (pc + 9) = .ok (.athrow, 1)) (hout : ∀ x ∈ c.exceptionTable.toList, covers x (pc + 9) = false)
    (hRframes : names.length + 3 < R.frames) (hRlocals : (rest.map fun v => v.category).sum + (13 * (names.length + 1) + 43) ≤ R.locals) (hcells : cells + 1 ≤ R.cells) (hslots : slots + 6 ≤ R.slots) (hlocks : meth.locks = false) :
    ∃ (U : State) (a : Addr) (ce : Cell), Steps p.tables e below (T.setTop (F0 m pc ls rest)) U ∧ U.status = .running ∧ Ended U below (.threw a) ∧ s.WarmedH U.vm ∧ s.sameButNew ({ U with vm := s.vm } : State) locs (cells + 1) (slots + 6) ∧
      T.heap.size ≤ U.heap.size ∧ (∀ q : Nat, q < T.heap.size → U.heap[q]? = T.heap[q]?) ∧ U.heap[a]? = some ce ∧ s.vm.findClass cls = some ce.cls ∧ ce.vm.isStatics = false := by
  have X0 : Stand p l e { frames := R.frames, cells := 1, slots := 6, locals := R.locals } ({ s with heap := T.heap, slotsUsed := T.slotsUsed } : State) m args below meth c T [] 0 0 := mj_rebase X rfl rfl hcells hslots
  generalize hs' : ({ s with heap := T.heap, slotsUsed := T.slotsUsed } : State) = s' at X0
  have hvm' : s'.vm = s.vm := by rw [← hs']
  have hhp' : s'.heap = T.heap := by rw [← hs']
  have hC' : mj_Cst s0 s' := ⟨by rw [hvm']; exact hC.1, by rw [hhp']; exact hCT.2.1, fun q hq => by rw [hhp']; exact hCT.2.2 q hq⟩
  have tb : ∀ {w : Cond}, w.onTables = true → w.before args s = true → w.before args s' = true := fun hw hb => va_tabs hw hvm'.symm hb
  have hown' : s'.vm.findClass own = some m.cls := by rw [hvm']; exact hown
  have K : W p l e { frames := R.frames, cells := 1, slots := 6, locals := R.locals } s' m args below meth c T.heap [] 0 0 (fun U => ∃ (a : Addr) (ce : Cell), U.status = .running ∧ Ended U below (.threw a) ∧ s'.WarmedH U.vm ∧ s'.sameButNew ({ U with vm := s'.vm } : State) [] 1 6 ∧ U.heap[a]? = some ce ∧ s'.vm.findClass cls = some ce.cls ∧ ce.vm.isStatics = false) (F0 m pc ls rest) := by
    refine W.newc hexec rfl hown' (tb rfl hclink) (tb rfl hins) (tb rfl hinit) rfl hd0 (Nat.le_refl _) (Nat.le_refl _) (fun cC kC h1 h2 h3 h4 => ?_)
    refine lv_dup hexec rfl hd3 rfl ?_
    refine va_ldcS hexec rfl hown' (hstr.same hvm') hd4 ?_
    intro T1 hT1 X1
    obtain ⟨U, u1, u2, u3, u4, u5, ce, u6, u7⟩ := X1.ctorThrowS hexec htr (own := own) (cls := cls) (names := names) (ic := ic) hown' hcls hnames (hth.at hC') (fun x hx => by cases hx) (a := T.heap.size) h1 h2
      (by rw [hT1]; simp) (by rw [hhp']; exact Nat.le_refl _) (msg := .ref q0) rfl (g := F0 m (pc + 6) ls (.ref q0 :: .ref T.heap.size :: .ref T.heap.size :: rest)) rfl hsize rfl rfl rfl hd6 hd9 hout hRframes
      (by show 2 * 0 + (1 + (rest.map fun v => v.category).sum) + _ ≤ R.locals; omega) hlocks
    exact ⟨U, u1, T.heap.size, ce, u2, u3, u4, u5, u6, u7.cls, by rw [u7.vm]; rfl⟩
  obtain ⟨U, u1, a, ce, u2, u3, u4, u5, u6, u7, u8⟩ := K T rfl X0
  have hsm : (T.setVm s.vm).sameButNew ({ U with vm := s.vm } : State) [] 1 6 := by
    obtain ⟨e1, e2, e3, e4, e5, e6⟩ := u5
    subst hs'
    refine ⟨?_, e2, e3, e4, e5, e6⟩
    have e7 := X.same.1
    rw [e7]
    refine e1.trans ?_
    simp [State.setFrames]
    exact (congrArg State.threads (State.setFrames_setFrames s T.frames ({ U with vm := s.vm } : State).frames)).symm
  have h9 := X.same.trans hsm
  rw [List.append_nil] at h9
  refine ⟨U, a, ce, u1, u2, u3, by subst hs'; exact u4, h9, ?_, ?_, u6, by rw [← hvm']; exact u7, u8⟩
  · exact hsm.2.1
  · intro q hq
    have hc : (T.setVm s.vm).heap[q]? = some (T.heap[q]) := Array.getElem?_eq_getElem hq
    obtain ⟨c', h1, h2, h3, h4⟩ := hsm.2.2.2.2.2 q _ hc
    have hsl : c'.slots = T.heap[q].slots := by
      apply Array.ext_getElem?
      intro i
      exact h4 i (by simp)
    have hcc : c' = T.heap[q] := by rw [h2, hsl]
    show U.heap[q]? = T.heap[q]?
    rw [Array.getElem?_eq_getElem hq, ← hcc]
    exact h1
end MJW
