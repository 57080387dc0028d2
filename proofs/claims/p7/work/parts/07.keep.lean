/-! WORDS THAT HOLD AT THE START HOLD LATER: the tables are warmer, no old cell has changed -/
/-- since the start s0: the tables warmer, every old cell as it was -/
def mj_Cst (s0 U : State) : Prop := s0.WarmedH U.vm ∧ s0.heap.size ≤ U.heap.size ∧ ∀ q : Nat, q < s0.heap.size → U.heap[q]? = s0.heap[q]?
theorem mj_Cst.at {s0 U : State} (h : mj_Cst s0 U) {q : Nat} {cell : Cell} (hc : s0.heap[q]? = some cell) : U.heap[q]? = some cell := by
  rw [h.2.2 q (Array.getElem?_eq_some_iff.mp hc).1]; exact hc
theorem mj_keepG {s0 U : State} {A A' : Array Value} {w : Cond} (h : mj_Cst s0 U) (hw : goodWord w = true) (hb : w.before A s0 = true) : w.before A' U = true := word_at h.1 (good_of_word hw) hb
theorem mj_keepT {s0 U : State} {A A' : Array Value} {w : Cond} (h : mj_Cst s0 U) (hw : w.keepsFace = true) (ht : w.onTables = true) (hb : w.before A s0 = true) : w.before A' U = true := by
  have h1 : w.before A (s0.setVm U.vm) = true := Cond.before_shiftedFace (State.Shifted.of_warmed h.1) _ hw hb
  exact va_tabs ht (rfl : (s0.setVm U.vm).vm = U.vm) h1
theorem mj_keepN {s0 U : State} {A A' : Array Value} {a : String} {i : Nat} {x : MethodName} {ho : String} (h : mj_Cst s0 U) (hb : (Cond.methodLinkNest a i x ho).before A s0 = true) : (Cond.methodLinkNest a i x ho).before A' U = true :=
  va_Nw.use rfl (va_Nw.warmM h.1 (va_Nw.of rfl hb))
theorem mj_keepL {s0 U : State} {A A' : Array Value} {o n d : String} (h : mj_Cst s0 U) (hb : (Cond.laysStatic o n d).before A s0 = true) : (Cond.laysStatic o n d).before A' U = true := by
  obtain ⟨c, k, i, f, a, cell, h1, h2, h3, h4, h5, h6, h7, h8, h9⟩ := Cond.laysStatic_spec hb
  obtain ⟨k', hi', he⟩ := State.fieldFound?_setVm h.1.alike h2
  have e1 : U.vm.findClass o = some c := by rw [h.1.alike.findClass]; exact h1
  have e4 : k'.statics = some a := by rw [he]; exact h4
  have e9 : k'.staticTypes[f.slot]? = some f.type := by rw [he]; exact h9
  have hi' : U.fieldFound? o n d = some (c, k', i, f) := hi'
  simp only [Cond.before, Cond.holds, Cond.value, e1, hi', e4, h.at h5, h3, h6, h7, h8, e9]
  simp
  exact ⟨cell, h.at h5, ⟨h6, h7⟩, h8⟩
theorem mj_keepR {s0 U : State} {A A' : Array Value} {o n d : String} (h : mj_Cst s0 U) (hl : (Cond.laysStatic o n d).before A s0 = true) (hb : (Cond.isRef (.static o n d)).before A s0 = true) : (Cond.isRef (.static o n d)).before A' U = true := by
  obtain ⟨c, k, i, f, a, cell, h1, h2, h3, h4, h5, h6, h7, h8, h9⟩ := Cond.laysStatic_spec hl
  obtain ⟨k', hi', he⟩ := State.fieldFound?_setVm h.1.alike h2
  have e4 : k'.statics = some a := by rw [he]; exact h4
  have hi' : U.fieldFound? o n d = some (c, k', i, f) := hi'
  have ev : (Term.static o n d).eval A' U none [] U = (Term.static o n d).eval A s0 none [] s0 := by
    simp [Term.eval, State.fieldNamed?, hi', h2, h3, e4, h4, h.at h5, h5]
  simp only [Cond.before, Cond.holds, Cond.value] at hb ⊢
  rw [ev]
  exact hb
