/-! A CALL IN A BODY, by the callee's contract -/
def mj_or (ad : Nat → Nat) (S : mj_S) (t : State) : mj_O → Outcome → Prop
  | .inl v, .returned w => w = v.map (mj_tr ad) ∧ ∀ z, v = some z → mj_wv S.1.length z
  | .inr k, .threw a => ∃ ce, t.heap[a]? = some ce ∧ t.vm.findClass (mj_ex k) = some ce.cls ∧ ce.vm.isStatics = false
  | _, _ => False
def mj_Pc (s0 : State) (D : va_G) (cl : List vw_C) (ft : Nat → Nat → Nat) (ka : Nat → ClassId) (ad : Nat → Nat) (as : List Value) (S : mj_S) : Array Value → State → Prop := fun a U =>
  a = (as.map (mj_tr ad)).toArray ∧ va_P D cl (mj_ws ft ka ad S) U.heap ∧ va_D (fun q => s0.heap.size ≤ q) (mj_ws ft ka ad S) ∧ mj_Cst s0 U
def mj_Qc (s0 : State) (D : va_G) (cl : List vw_C) (ft : Nat → Nat → Nat) (ka : Nat → ClassId) (ad : Nat → Nat) (S : mj_S) (Q : mj_Q) : Array Value → State → Outcome → State → Prop := fun _ st o t =>
  st.WarmedH t.vm ∧ ∃ (o' : mj_O) (S' : mj_S) (ad' : Nat → Nat) (L : List Loc), Q o' S' ∧ mj_or ad' S' t o' o ∧ va_P D cl (mj_ws ft ka ad' S') t.heap ∧ va_D (fun q => s0.heap.size ≤ q) (mj_ws ft ka ad' S') ∧ mj_wS S' ∧ (S.1.length ≤ S'.1.length ∧ ∀ q, mj_wr S.1.length q → ad' q = ad q) ∧
    (S.2.2.2.2.1 ≤ S'.2.2.2.2.1 ∧ S.2.2.2.2.2 ≤ S'.2.2.2.2.2) ∧ (st.heap.size ≤ t.heap.size ∧ ∀ q, q < st.heap.size → ¬ s0.heap.size ≤ q → t.heap[q]? = st.heap[q]?) ∧ (∀ q ∈ L, s0.heap.size ≤ q.base) ∧ st.sameButNew ({ t with vm := st.vm } : State) L (S'.2.2.2.2.1 - S.2.2.2.2.1) (S'.2.2.2.2.2 - S.2.2.2.2.2)
def mj_rm (X : mj_X) (d : Nat) (S : mj_S) : Room := { frames := d + 8, cells := X.2.2.1 - S.2.2.2.2.1, slots := X.2.2.2 - S.2.2.2.2.2, locals := 40 * d + 300 }
/-- a method: its name, bytes, locals, answer, handlers -/
abbrev mj_D : Type := MethodName × ByteArray × Nat × Option FieldType × List (Nat × Nat × Nat × Nat)
def mj_cw (y : mj_D) : Cond := .codeWith y.1 y.2.1 y.2.2.1 y.2.2.2.1 y.2.2.2.2
/-- the callee's contract at depth d -/
def mj_Con (l : Launch) (s0 : State) (D : va_G) (cl : List vw_C) (ft : Nat → Nat → Nat) (ka : Nat → ClassId) (a0 : Nat → Nat) (X : mj_X) (d : Nat) (y : mj_D) (as : List Value) (S : mj_S) (Q : mj_Q) : Prop :=
  ∀ ad : Nat → Nat, (∀ i, 900000 ≤ i → ad i = a0 i) → mj_wS S → mj_wT S.1.length as → MetFree l y.1 (headSpec [mj_cw y] (mj_rm X d S)) (mj_Pc s0 D cl ft ka ad as S) (fun _ _ _ _ _ => True) (mj_Qc s0 D cl ft ka ad S Q)
set_option maxRecDepth 20000 in
theorem mj_loc {z d r : Nat} (h1 : z ≤ 21) (h2 : 40 * d + 340 ≤ r) : 8 + (z + 11) + (40 * d + 300) ≤ r := by omega
theorem mj_wg_sum (ad : Nat → Nat) : ∀ r : List Value, ((r.map (mj_tr ad)).map fun v => v.category).sum = mj_wg r
  | [] => rfl
  | v :: r => by
    rw [List.map_cons, List.map_cons, List.sum_cons, mj_wg_sum ad r, mj_tr_cat]
    rfl
section MJK
variable {p : Program} {l : Launch} {e : Env} {R : Room} {s s0 : State} {m : MethodId} {args : Array Value} {below : List Frame} {meth : Method} {c : Code}
variable {D : va_G} {cl : List vw_C} {ft : Nat → Nat → Nat} {ka : Nat → ClassId} {E : mj_S} {aE a0 : Nat → Nat} {cc : ByteArray} {nL : Nat} {own : String} {Wd : Cond → Prop} {ini : Prop} {X : mj_X} {hd : mj_H} {cls : mj_C}
/-- the handlers of a body -/
def mj_Hok (Wd : Cond → Prop) (own : String) (cc : ByteArray) (c : Code) (nL : Nat) (hd : mj_H) : Prop := ∀ pc, match hd pc with
  | none => ∀ x ∈ c.exceptionTable.toList, covers x pc = false
  | some (k, i, h) => ∃ x : ExceptionTableEntry, c.exceptionTable.toList = [x] ∧ covers x pc = true ∧ x.catchType ≠ 0 ∧ Wd (.classLink own x.catchType (mj_ex k)) ∧ i < nL ∧ ((∃ j : Fin 4, decode cc x.handlerPc = .ok (.astore_n j, 1) ∧ (j : Nat) = i ∧ h = x.handlerPc + 1) ∨ (decode cc x.handlerPc = .ok (.astore i, 2) ∧ h = x.handlerPc + 2))
/-- under the note of what was thrown -/
theorem mj_thrown {Z : State → Prop} {nx : mj_N} {Q : mj_Q} {ad : Nat → Nat} {lv : mj_LV} {S : mj_S} {locs : List Loc} {cells slots : Nat} {ls : Array Slot} {pc k : Nat} {rest : List Value} {a : Addr} {ce : Cell} {T : State} (hx : p.tables.exec = Jvm.exec) (hb : c.code = cc) (hown : s.vm.findClass own = some m.cls) (hlk : meth.locks = false) (hwd : ∀ w, Wd w → w.before args s = true) (hself : ∀ (k : Nat) (cN : ClassId), s.vm.findClass (mj_ex k) = some cN → s.vm.assignable cN cN = true) (hH : mj_Hok Wd own cc c nL hd)
    (hN : ∀ pc, mj_Kok p l e R s m args below meth c Z D cl ft ka s0.heap.size E aE nL (fun lv st S => nx pc lv st S Q) pc) (hX : mj_Xok s below Z D cl ft ka s0.heap.size E aE Q)
    (hR : mj_Rh D cl ft ka s0.heap.size s E aE ad S T.heap locs cells slots) (hl : mj_lr ad nL lv ls) (hwl : mj_wL S.1.length lv) (XT : Stand p l e R s m args below meth c T locs cells slots) (hce : T.heap[a]? = some ce) (hcl : s.vm.findClass (mj_ex k) = some ce.cls) (hst : ce.vm.isStatics = false)
    (h : match hd pc with
      | some (k', i, hp) => k = k' ∧ nx hp (mj_er lv i) [] S Q
      | none => Q (.inr k) S) :
    ∃ t, Steps p.tables e below ((T.setTop (F0 m pc ls rest)).pushFrame (.throwing a)) t ∧ Z t := by
  have hh := hH pc
  cases hp : hd pc with
  | none =>
    rw [hp] at h hh
    dsimp only at h hh
    obtain ⟨u1, u2, u3, u4, u5⟩ := XT.leaveThrown a (g := F0 m pc ls rest) rfl rfl rfl hh hlk
    exact ⟨_, u1, hX ad k S T.heap locs cells slots a ce _ hR h hce hcl hst rfl u2 u3 u4 ⟨locs, hR.2.2.1.2.2, u5⟩⟩
  | some z =>
    obtain ⟨k', i, hpc⟩ := z
    rw [hp] at h hh
    dsimp only at h hh
    obtain ⟨rfl, h⟩ := h
    obtain ⟨x, h1, h2, h3, h4, h5, h6⟩ := hh
    obtain ⟨vm', X', st⟩ := mj_caught1 XT (g := F0 m pc ls rest) rfl h1 h2 h3 hown (hwd _ h4) hce hst hcl (hself k _ hcl)
    have K : W p l e R s m args below meth c T.heap locs cells slots Z (F0 m x.handlerPc ls [.ref a]) := by
      have fin : ∀ ls', lv_has ls' nL ((i, .ref a) :: (mj_ps ad lv).filter (fun q => !(q.1 == i) && !(q.1 + 1 == i && q.2.category == 2))) → mj_lr ad nL (mj_er lv i) ls' := by
        intro ls' hl'
        refine ⟨hl'.1, hl'.2.1, fun j v hj => ?_⟩
        obtain ⟨e1, e2, e3⟩ := mj_er_get hj
        refine hl'.2.2 (j, mj_tr ad v) (List.mem_cons_of_mem _ (List.mem_filter.mpr ⟨mj_ps_mem.mpr ⟨v, e2, rfl⟩, ?_⟩))
        simp only [Bool.and_eq_true, Bool.not_eq_true', beq_eq_false_iff_ne, ne_eq, Bool.and_eq_false_iff, mj_tr_cat]
        refine ⟨e1, ?_⟩
        by_cases hq : j + 1 = i
        · exact Or.inr (fun q => e3 ⟨hq, q⟩)
        · exact Or.inl hq
      rcases h6 with ⟨j, h7, h8, rfl⟩ | ⟨h7, rfl⟩
      · exact lv_astore_n hx hb h7 h8 hl.has h5 rfl (fun ls' hl' => hN _ ad _ [] S T.heap locs cells slots ls' hR (fin ls' hl') (hwl.less (fun _ _ q => (mj_er_get q).2.1)) (fun v hv => by cases hv) h)
      · exact lv_astore hx hb h7 hl.has h5 rfl (fun ls' hl' => hN _ ad _ [] S T.heap locs cells slots ls' hR (fin ls' hl') (hwl.less (fun _ _ q => (mj_er_get q).2.1)) (fun v hv => by cases hv) h)
    obtain ⟨t, s1, s2⟩ := K (T.setVm vm') rfl X'
    exact ⟨t, st t s1, s2⟩
set_option maxHeartbeats 1000000 in
theorem mj_Iok_call {d b : Nat} {y : mj_D} {Rc : mj_S → List Value → Prop} (hx : p.tables.exec = Jvm.exec) (hb : c.code = cc) (hml : c.maxLocals = nL) (hown : s.vm.findClass own = some m.cls) (hlk : meth.locks = false) (hwd : ∀ w, Wd w → w.before args s = true) (hself : ∀ (k : Nat) (cN : ClassId), s.vm.findClass (mj_ex k) = some cN → s.vm.assignable cN cN = true) (hH : mj_Hok Wd own cc c nL hd) (hG : mj_Gr R s meth s0.heap.size E aE X ini) (hC : mj_Cst s0 s) (ha0 : ∀ i, 900000 ≤ i → aE i = a0 i) (hg : ∀ w, Wd w → goodWord w = true)
    {x : mj_I} (hlen3 : x.2.2.1 = 3) (hdec : decode cc x.1 = .ok (x.2.1, 3)) (hin : ∀ (nx : mj_N) (Q : mj_Q) (K : mj_K) (lv : mj_LV) (st : List Value) (S : mj_S), mj_in X hd cls nx Q x K lv st S → ∃ as r, mj_tk b [] st = some (as, r) ∧ mj_wg r ≤ 8 ∧ Rc S as ∧ cls x.2.2.2.1.1 as S (mj_ret hd nx x.1 K lv r Q))
    (hcon : ∀ (as : List Value) (S : mj_S) (Q : mj_Q), cls x.2.2.2.1.1 as S Q → mj_Con l s0 D cl ft ka a0 X d y as S Q) (hRf : d + 9 ≤ R.frames) (hRl : 40 * d + 340 ≤ R.locals) (hmx : y.2.2.1 ≤ 21) (hcw : Wd (mj_cw y)) (hini : Wd (.initialized y.1.cls)) (hR1 : R.cells = X.2.2.1 - E.2.2.2.2.1 ∧ R.slots = X.2.2.2 - E.2.2.2.2.2) (hR2 : E.2.2.2.2.1 ≤ X.2.2.1 ∧ E.2.2.2.2.2 ≤ X.2.2.2)
    (hE : ∀ (T : State) (locs : List Loc) (cells slots : Nat) (ls : Array Slot) (ad : Nat → Nat) (S : mj_S) (as rest : List Value), mj_Rh D cl ft ka s0.heap.size s E aE ad S T.heap locs cells slots → Stand p l e R s m args below meth c T locs cells slots → as.length = b → Rc S as → mj_Ent p l e R s m args below meth c T locs cells slots y.1 (F0 m x.1 ls ((as.map (mj_tr ad)).reverse ++ rest)) rest (as.map (mj_tr ad)).toArray) :
    mj_Iok p l e R s m args below meth c D cl ft ka s0.heap.size E aE nL X hd cls x := by
  intro nx K Q Z hN hK hQ hX ad lv st S H locs cells slots ls hR hl hwl hwt h
  obtain ⟨as, r, htk, hwg, hrc, hcl⟩ := hin nx Q K lv st S h
  obtain ⟨bs, rfl, hbl, has⟩ := mj_tk_sp _ _ _ _ _ htk
  rw [List.append_nil] at has
  have hasl : as.length = b := by rw [has, List.length_reverse]; exact hbl
  have hstk : (bs ++ r).map (mj_tr ad) = (as.map (mj_tr ad)).reverse ++ r.map (mj_tr ad) := by
    rw [has, List.map_append, ← List.map_reverse, List.reverse_reverse]
  have hwr : mj_wT S.1.length r := fun v hv => hwt v (List.mem_append_right _ hv)
  have hwa : mj_wT S.1.length as := fun v hv => hwt v (List.mem_append_left _ (by rw [has] at hv; exact List.mem_reverse.mp hv))
  obtain ⟨g1, g2, g3, g4, g5, g6⟩ := hG
  obtain ⟨r1, r2, r3, r4, r5, r6, r7⟩ := hR
  intro T hT XT
  subst hT
  rw [hstk]
  obtain ⟨vm₁, mk, X1, hnamed, hstep⟩ := hE T locs cells slots ls ad S as (r.map (mj_tr ad)) ⟨r1, r2, r3, r4, r5, r6, r7⟩ XT hasl hrc
  have hM := hcon as S _ hcl ad (fun i hi => (r5.2 i (Or.inr hi)).trans (ha0 i hi)) r4 hwa
  have hCT : mj_Cst s0 (T.setVm vm₁) := hC.on rfl r3 rfl X1.warmed
  have hcwU : (mj_cw y).before (as.map (mj_tr ad)).toArray (T.setVm vm₁) = true := word_at X1.warmed (good_of_word (hg _ hcw)) (hwd _ hcw)
  obtain ⟨m9, methY, cY, hn9, hmY, hcY, -, hlY, -⟩ := Cond.codeWith_spec hcwU
  have hn := X1.named hnamed
  cases hn.symm.trans hn9
  obtain ⟨kY, hkY, -⟩ := className_of_methodNamed hn
  have hiniU : (Cond.initialized y.1.cls).before (as.map (mj_tr ad)).toArray (T.setVm vm₁) = true := word_at X1.warmed (good_of_word (hg _ hini)) (hwd _ hini)
  have hinitY : kY.init = .initialized := Cond.initialized_spec (findClass_of_methodNamed hn) hkY hiniU
  have hm1 : (mj_rm X d S).frames = d + 8 := rfl
  have hm2 : (mj_rm X d S).locals = 40 * d + 300 := rfl
  have hm3 : (mj_rm X d S).cells = X.2.2.1 - S.2.2.2.2.1 := rfl
  have hm4 : (mj_rm X d S).slots = X.2.2.2 - S.2.2.2.2.2 := rfl
  have hc4 := r4.1.2.2
  have hloc : 8 + (y.2.2.1 + 11) + (mj_rm X d S).locals ≤ R.locals := by
    rw [hm2]
    exact mj_loc hmx hRl
  obtain ⟨o, t, hq, hWt, hstand, hback⟩ := mj_back (W := 8) (maxL := y.2.2.1) hM (fun a st o t q => by obtain ⟨q1, o', S', ad', L, -, -, -, -, -, -, -, -, -, q2⟩ := q; exact ⟨q1, L, _, _, q2⟩) X1 (g := F0 m x.1 ls (r.map (mj_tr ad))) (ig := x.2.1) (len := 3) rfl (by rw [hml]; exact hl.1) (by rw [hb]; exact hdec)
    (by show 2 * 0 + _ ≤ 8; rw [mj_wg_sum]; omega) hn hmY hcY hlY hkY hinitY (by rw [hm1]; omega) hloc (by rw [hm3]; omega) (by rw [hm4]; omega)
    (atoms_intro (fun w hw => by rw [List.mem_singleton.mp hw]; exact hcwU)) ⟨rfl, r1, r2, hCT⟩
  obtain ⟨-, o', S', ad', L, hQ', hor, p1, p2, p3, p4, p5, p6, p7, p8⟩ := hq
  have X2 := hstand L _ _ p8
  have hR' : mj_Rh D cl ft ka s0.heap.size s E aE ad' S' t.heap (locs ++ L) (cells + (S'.2.2.2.2.1 - S.2.2.2.2.1)) (slots + (S'.2.2.2.2.2 - S.2.2.2.2.2)) := by
    refine ⟨p1, p2, ⟨Nat.le_trans r3.1 p6.1, fun q hq hA => ?_, fun q hq => ?_⟩, p3, ⟨Nat.le_trans r5.1 p4.1, fun q hq => ?_⟩, by omega, by omega⟩
    · exact (p6.2 q (Nat.lt_of_lt_of_le hq r3.1) hA).trans (r3.2.1 q hq hA)
    · rcases List.mem_append.mp hq with hq | hq
      · exact r3.2.2 q hq
      · exact p7 q hq
    · rw [p4.2 q (hq.up r5.1)]
      exact r5.2 q hq
  have hl' : mj_lr ad' nL lv ls := hl.ad hwl p4.2
  have hwl' := hwl.up p4.1
  have hwr' := hwr.up p4.1
  have hrm : r.map (mj_tr ad') = r.map (mj_tr ad) := mj_map_ad hwr p4.2
  rw [hlen3] at hK
  cases o with
  | returned w =>
    cases o' with
    | inr k => exact hor.elim
    | inl v =>
      obtain ⟨rfl, hv⟩ := hor
      have hb2 : Steps p.tables e below _ ((({ T.setVm vm₁ with heap := t.heap, slotsUsed := t.slotsUsed } : State).setVm t.vm).setTop (F0 m (x.1 + 3) ls ((v.map (mj_tr ad')).toList ++ r.map (mj_tr ad)))) := hback
      cases v with
      | none =>
        have hQ2 : K lv r S' := hQ'
        obtain ⟨tz, z1, z2⟩ := hK ad' lv r S' t.heap _ _ _ ls hR' hl' hwl' hwr' hQ2 (({ T.setVm vm₁ with heap := t.heap, slotsUsed := t.slotsUsed } : State).setVm t.vm) rfl X2
        rw [hrm] at z1
        exact ⟨tz, hstep _ (hb2.trans z1), z2⟩
      | some v =>
        have hQ2 : K lv (v :: r) S' := hQ'
        obtain ⟨tz, z1, z2⟩ := hK ad' lv (v :: r) S' t.heap _ _ _ ls hR' hl' hwl' (hwr'.push (hv v rfl)) hQ2 (({ T.setVm vm₁ with heap := t.heap, slotsUsed := t.slotsUsed } : State).setVm t.vm) rfl X2
        rw [List.map_cons, hrm] at z1
        exact ⟨tz, hstep _ (hb2.trans z1), z2⟩
  | threw a =>
    cases o' with
    | inl v => cases v <;> exact hor.elim
    | inr k =>
      obtain ⟨ce, e1, e2, e3⟩ := hor
      have hcls : s.vm.findClass (mj_ex k) = some ce.cls := by
        have := (X1.warmed.trans (show (T.setVm vm₁).WarmedH t.vm from hWt)).alike.findClass (name := mj_ex k)
        rw [← this]; exact e2
      obtain ⟨tz, z1, z2⟩ := mj_thrown (rest := r.map (mj_tr ad)) (pc := x.1) (k := k) (T := ({ T.setVm vm₁ with heap := t.heap, slotsUsed := t.slotsUsed } : State).setVm t.vm) hx hb hown hlk hwd hself hH hN hX hR' hl' hwl' X2 e1 hcls e3 hQ'
      exact ⟨tz, hstep _ (Steps.trans hback z1), z2⟩
end MJK
