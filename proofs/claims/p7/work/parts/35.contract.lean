/-! A METHOD'S CONTRACT out of its body -/
theorem mj_en_len (ad : Nat → Nat) : ∀ as : List Value, (lg_sl (as.map (mj_tr ad))).length = (mj_en as).length
  | [] => rfl
  | x :: r => by
    have ih := mj_en_len ad r
    unfold lg_sl at ih ⊢
    rw [List.map_cons, List.flatMap_cons, List.length_append, ih]
    cases x <;> simp [mj_tr, mj_en, Value.category] <;> omega
section MJN
variable {l : Launch} {s0 : State} {D : va_G} {cl : List vw_C} {ft : Nat → Nat → Nat} {ka : Nat → ClassId} {X : mj_X}
/-- what a body may lean on, at its entry -/
def mj_Ent0 (l : Launch) (s0 : State) (D : va_G) (cl : List vw_C) (ft : Nat → Nat → Nat) (ka : Nat → ClassId) (X : mj_X) (d : Nat) (y : mj_D) (ad : Nat → Nat) (S : mj_S) (p : Program) (e : Env) (s : State) (m : MethodId) (args : Array Value) (below : List Frame) (meth : Method) (c : Code) : Prop :=
  p.tables.exec = Jvm.exec ∧ c.code = y.2.1 ∧ c.maxLocals = y.2.2.1 ∧ s.vm.findClass y.1.cls = some m.cls ∧ meth.locks = false ∧ meth.sig.returnType = y.2.2.2.1 ∧ mj_Cst s0 s ∧ meth.name = y.1.name ∧ c.exceptionTable.toList.map (fun h => (h.startPc, h.endPc, h.handlerPc, h.catchType)) = y.2.2.2.2
theorem mj_con_body {d : Nat} {y : mj_D} {hd : mj_H} {T : List mj_B} {cls : mj_C} {as : List Value} {S : mj_S} {Q : mj_Q} {k : Nat} {ad : Nat → Nat} (hy : plainName y.1.cls = true) (hwS : mj_wS S) (hwT : mj_wT S.1.length as) (hlen : (mj_en as).length ≤ y.2.2.1) (hrn : mj_rn X hd cls T 0 (mj_en as ++ List.replicate k none) [] S Q)
    (hT : ∀ (p : Program) (e : Env) (s : State) (m : MethodId) (args : Array Value) (below : List Frame) (meth : Method) (c : Code), mj_Ent0 l s0 D cl ft ka X d y ad S p e s m args below meth c → ∀ b ∈ T, mj_bok (mj_Iok p l e (mj_rm X d S) s m args below meth c D cl ft ka s0.heap.size S ad y.2.2.1 X hd cls) b.1 b.2.2.1 b.2.2.2) :
    MetFree l y.1 (headSpec [mj_cw y] (mj_rm X d S)) (mj_Pc s0 D cl ft ka ad as S) (fun _ _ _ _ _ => True) (mj_Qc s0 D cl ft ka ad S Q) := by
  refine MetFree.of_bodyS (code := y.2.1) (maxLocals := y.2.2.1) (ret := y.2.2.2.1) hy ?_ ?_
  · intro args s m h hn
    obtain ⟨m9, meth, c, hn9, h1, h2, h3, h4, -, h5, h6, -⟩ := Cond.codeWith_spec (atoms_spec (ws := [mj_cw y]) h (mj_cw y) List.mem_cons_self)
    cases hn.symm.trans hn9
    exact ⟨meth, c, h1, h2, h3, h4, h5, h6⟩
  · intro p e s m args below meth c s₁ B hml hP _
    obtain ⟨rfl, hP1, hP2, hC⟩ := hP
    have hh0 : s₁.heap = s.heap := by rw [B.state]; rfl
    have X0 := Stand.of_body B
    obtain ⟨m9, meth9, c9, hn9, h1, h2, -, -, h5, -⟩ := Cond.codeWith_spec (atoms_spec (ws := [mj_cw y]) B.pre (mj_cw y) List.mem_cons_self)
    cases B.named.symm.trans hn9
    cases B.method.symm.trans h1
    cases X0.code.symm.trans h2
    have hE : mj_Ent0 l s0 D cl ft ka X d y ad S p e s m (as.map (mj_tr ad)).toArray below meth c := ⟨B.exec, B.bytes, hml, findClass_of_methodNamed B.named, B.notSynchronized, B.returns, hC, (name_of_methodNamed B.named B.method).1, h5⟩
    have hR : mj_Rh D cl ft ka s0.heap.size s S ad ad S s.heap [] 0 0 := ⟨hP1, hP2, va_S.rf, hwS, ⟨Nat.le_refl _, fun _ _ => rfl⟩, rfl, rfl⟩
    have K := mj_rn_snd (Z := fun t => ∃ o, t.status = .running ∧ Ended t below o ∧ mj_Qc s0 D cl ft ka ad S Q (as.map (mj_tr ad)).toArray s o t) (hT p e s m _ below meth c hE) (Q := Q) ?_ ?_ 0 ad _ [] S s.heap [] 0 0 _ hR (mj_lr_entry ad as (n := y.2.2.1) (k := k) (by rw [mj_en_len]; exact hlen)) (mj_wL_entry hwT) (fun v hv => by cases hv) hrn
    · rw [List.map_nil, ← lg_entry_eq] at K
      obtain ⟨t, a1, o, b1, b2, b3⟩ := K s₁ hh0 X0
      exact ⟨t, o, a1, b1, b2, b3⟩
    · intro ad' v S' H locs cells slots t hR' hQ hv ht h1 h2 h3 h4
      obtain ⟨L, hL1, hL2⟩ := h4
      obtain ⟨r1, r2, r3, r4, r5, r6, r7⟩ := hR'
      refine ⟨_, h1, h2, h3, .inl v, S', ad', L, hQ, ⟨rfl, hv⟩, by rw [ht]; exact r1, r2, r4, r5, by omega, ⟨by rw [ht]; exact r3.1, fun q hq hA => by rw [ht]; exact r3.2.1 q hq hA⟩, hL1, ?_⟩
      rw [show S'.2.2.2.2.1 - S.2.2.2.2.1 = cells by omega, show S'.2.2.2.2.2 - S.2.2.2.2.2 = slots by omega]
      exact hL2
    · intro ad' k' S' H locs cells slots a ce t hR' hQ hce hcl hst ht h1 h2 h3 h4
      obtain ⟨L, hL1, hL2⟩ := h4
      obtain ⟨r1, r2, r3, r4, r5, r6, r7⟩ := hR'
      refine ⟨_, h1, h2, h3, .inr k', S', ad', L, hQ, ⟨ce, by rw [ht]; exact hce, by rw [h3.alike.findClass]; exact hcl, hst⟩, by rw [ht]; exact r1, r2, r4, r5, by omega, ⟨by rw [ht]; exact r3.1, fun q hq hA => by rw [ht]; exact r3.2.1 q hq hA⟩, hL1, ?_⟩
      rw [show S'.2.2.2.2.1 - S.2.2.2.2.1 = cells by omega, show S'.2.2.2.2.2 - S.2.2.2.2.2 = slots by omega]
      exact hL2
end MJN
