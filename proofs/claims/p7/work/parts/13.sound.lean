/-! ONE INSTRUCTION, against the machine -/
theorem mj_wT.pushI {n : Nat} {x : Int32} {r : List Value} (h : mj_wT n r) : mj_wT n (.int x :: r) := h.push trivial
theorem mj_wT.pushL {n : Nat} {x : Int64} {r : List Value} (h : mj_wT n r) : mj_wT n (.long x :: r) := h.push trivial
theorem mj_wT.pushN {n : Nat} {r : List Value} (h : mj_wT n r) : mj_wT n (.null :: r) := h.push trivial
theorem mj_sw_look {nx : Nat → Prop} {d pc : Nat} {dd : Int} {x : Int32} (hd : (pc : Int) + dd = (d : Int)) : ∀ sw : List (Int32 × Nat), mj_sw nx d x sw → ∃ tgt : Nat, nx tgt ∧ (pc : Int) + Op.lookupswitch.offset (sw.map fun q => (q.1.toInt, (q.2 : Int) - (pc : Int))) dd x.toInt = (tgt : Int)
  | [], h => ⟨d, h, hd⟩
  | (k, t) :: r, h => by
    by_cases hk : x = k
    · refine ⟨t, h.1 hk, ?_⟩
      rw [List.map_cons, Op.lookupswitch.offset_cons, if_pos (by rw [hk])]
      show (pc : Int) + ((t : Int) - (pc : Int)) = t
      omega
    · obtain ⟨tgt, h1, h2⟩ := mj_sw_look hd r (h.2 hk)
      refine ⟨tgt, h1, ?_⟩
      rw [List.map_cons, lv_osw hk rfl]
      exact h2
theorem mj_sw_tab {nx : Nat → Prop} {d : Nat} {x : Int32} : ∀ sw : List (Int32 × Nat), mj_sw nx d x sw → (∃ (j : Nat) (k : Int32) (t : Nat), sw[j]? = some (k, t) ∧ x = k ∧ nx t) ∨ ((∀ (j : Nat) (k : Int32) (t : Nat), sw[j]? = some (k, t) → ¬ x = k) ∧ nx d)
  | [], h => Or.inr ⟨fun j k t q => by simp at q, h⟩
  | (k, t) :: r, h => by
    by_cases hk : x = k
    · exact Or.inl ⟨0, k, t, rfl, hk, h.1 hk⟩
    · rcases mj_sw_tab r (h.2 hk) with ⟨j, k', t', h1, h2, h3⟩ | ⟨h1, h2⟩
      · exact Or.inl ⟨j + 1, k', t', h1, h2, h3⟩
      · refine Or.inr ⟨fun j k' t' q => ?_, h2⟩
        cases j with
        | zero => simp at q; rw [← q.1]; exact hk
        | succ j => exact h1 j k' t' q
section MJI
variable {p : Program} {l : Launch} {e : Env} {R : Room} {s : State} {m : MethodId} {args : Array Value} {below : List Frame} {meth : Method} {c : Code} {Z : State → Prop}
variable {D : va_G} {cl : List vw_C} {ft : Nat → Nat → Nat} {ka : Nat → ClassId} {B : Nat} {E : mj_S} {aE : Nat → Nat} {cc : ByteArray} {nL : Nat} {own : String} {Wd : Cond → Prop} {ini : Prop} {rt : Option FieldType} {X : mj_X} {hd : mj_H} {cls : mj_C} {nx : mj_N} {Q : mj_Q}
/-- what holds behind an instruction brings the machine on -/
def mj_Kok (p : Program) (l : Launch) (e : Env) (R : Room) (s : State) (m : MethodId) (args : Array Value) (below : List Frame) (meth : Method) (c : Code) (Z : State → Prop) (D : va_G) (cl : List vw_C) (ft : Nat → Nat → Nat) (ka : Nat → ClassId) (B : Nat) (E : mj_S) (aE : Nat → Nat) (nL : Nat) (K : mj_K) (pc : Nat) : Prop :=
  ∀ (ad : Nat → Nat) (lv : mj_LV) (st : List Value) (S : mj_S) (H : Heap) (locs : List Loc) (cells slots : Nat) (ls : Array Slot), mj_Rh D cl ft ka B s E aE ad S H locs cells slots → mj_lr ad nL lv ls → mj_wL S.1.length lv → mj_wT S.1.length st → K lv st S → W p l e R s m args below meth c H locs cells slots Z (F0 m pc ls (st.map (mj_tr ad)))
/-- a return's end -/
def mj_Qok (s : State) (below : List Frame) (Z : State → Prop) (D : va_G) (cl : List vw_C) (ft : Nat → Nat → Nat) (ka : Nat → ClassId) (B : Nat) (E : mj_S) (aE : Nat → Nat) (Q : mj_Q) : Prop :=
  ∀ (ad : Nat → Nat) (v : Option Value) (S : mj_S) (H : Heap) (locs : List Loc) (cells slots : Nat) (t : State), mj_Rh D cl ft ka B s E aE ad S H locs cells slots → Q (.inl v) S → (∀ w, v = some w → mj_wv S.1.length w) → t.heap = H → t.status = .running → Ended t below (.returned (v.map (mj_tr ad))) → s.WarmedH t.vm → (∃ L : List Loc, (∀ q ∈ L, B ≤ q.base) ∧ s.sameButNew ({ t with vm := s.vm } : State) L cells slots) → Z t
/-- what holds of a method's body all through, beside its code -/
def mj_Gr (R : Room) (s : State) (meth : Method) (B : Nat) (E : mj_S) (aE : Nat → Nat) (X : mj_X) (ini : Prop) : Prop :=
  (ini → meth.name = "<init>") ∧ B ≤ s.heap.size ∧ (X.2.2.1 ≤ E.2.2.2.2.1 + R.cells ∧ X.2.2.2 ≤ E.2.2.2.2.2 + R.slots) ∧ (X.2.2.1 = 601024 ∧ X.2.2.2 = 7293034) ∧ (8 ≤ R.frames ∧ 300 ≤ R.locals) ∧ (va_X (aE 900000) X.1.1 X.1.2 s s.heap ∧ aE 900000 < s.heap.size ∧ ¬ B ≤ aE 900000)
set_option maxHeartbeats 4000000 in
theorem mj_in_snd (hx : p.tables.exec = Jvm.exec) (hb : c.code = cc) (hml : c.maxLocals = nL) (hown : s.vm.findClass own = some m.cls) (hlk : meth.locks = false) (hrt : meth.sig.returnType = rt) (hwd : ∀ w, Wd w → w.before args s = true) (hKt : va_K D cl (mj_tys ka) s) (hco : mj_cok Wd cl ft) (hG : mj_Gr R s meth B E aE X ini)
    {x : mj_I} (hdec : decode cc x.1 = .ok (x.2.1, x.2.2.1)) (hok : mj_iok Wd cl ft own nL ini rt x) {K : mj_K} (hK : mj_Kok p l e R s m args below meth c Z D cl ft ka B E aE nL K (x.1 + x.2.2.1)) (hN : ∀ pc, mj_Kok p l e R s m args below meth c Z D cl ft ka B E aE nL (fun lv st S => nx pc lv st S Q) pc) (hQ : mj_Qok s below Z D cl ft ka B E aE Q)
    (hls : ∀ i, x.2.1 = .ldc i → x.2.2.2.1.2.2 ≠ 0 → ∃ tx, vk_R own i tx (aE x.2.2.2.1.1) s)
    (hC : ∀ n, (x.2.1 = .invokestatic n ∨ x.2.1 = .invokevirtual n ∨ (x.2.1 = .invokespecial n ∧ x.2.2.2.1.2.2 = 0)) → mj_Kok p l e R s m args below meth c Z D cl ft ka B E aE nL (fun lv st S => mj_in X hd cls nx Q x K lv st S) x.1)
    (hT : ∀ n, x.2.1 = .new n → x.2.2.2.1.2.2 ≠ 0 → mj_Kok p l e R s m args below meth c Z D cl ft ka B E aE nL (fun lv st S => mj_in X hd cls nx Q x K lv st S) x.1)
    {ad : Nat → Nat} {lv : mj_LV} {st : List Value} {S : mj_S} {H : Heap} {locs : List Loc} {cells slots : Nat} {ls : Array Slot} (hR : mj_Rh D cl ft ka B s E aE ad S H locs cells slots) (hl : mj_lr ad nL lv ls) (hwl : mj_wL S.1.length lv) (hwt : mj_wT S.1.length st) (h : mj_in X hd cls nx Q x K lv st S) :
    W p l e R s m args below meth c H locs cells slots Z (F0 m x.1 ls (st.map (mj_tr ad))) := by
  obtain ⟨pc, i, len, ⟨a, b, t⟩, k, kl, sw⟩ := x
  have h' := h
  unfold mj_in at h
  unfold mj_iok at hok
  have hP0 := hR.1
  obtain ⟨g1, g2, g3, g4, g5, g6⟩ := hG
  have hA : ∀ q, s.heap.size ≤ q → B ≤ q := fun q hq => Nat.le_trans g2 hq
  cases i <;> dsimp only at h hok hdec hK hls hC hT ⊢
  case iconst n =>
    obtain ⟨rfl, hk⟩ := hok
    exact lv_iconst hx hb hdec hk (hK ad lv _ S H locs cells slots ls hR hl hwl (hwt.pushI) h)
  case bipush n =>
    obtain ⟨rfl, hk⟩ := hok
    exact lv_bipush hx hb hdec hk (hK ad lv _ S H locs cells slots ls hR hl hwl (hwt.pushI) h)
  case sipush n =>
    obtain ⟨rfl, hk⟩ := hok
    exact lv_sipush hx hb hdec hk (hK ad lv _ S H locs cells slots ls hR hl hwl (hwt.pushI) h)
  case ldc_w n =>
    obtain ⟨rfl, hk⟩ := hok
    exact lv_ldcw hx hb hown (hwd _ hk) hdec (hK ad lv _ S H locs cells slots ls hR hl hwl hwt.pushI h)
  case lconst n =>
    obtain ⟨rfl, hk⟩ := hok
    exact lv_lconst hx hb hdec hk (hK ad lv _ S H locs cells slots ls hR hl hwl (hwt.pushL) h)
  case ldc2_w n =>
    obtain ⟨rfl, hk⟩ := hok
    exact lv_ldc2 hx hb hown (hwd _ hk) hdec (hK ad lv _ S H locs cells slots ls hR hl hwl (hwt.pushL) h)
  case iload n =>
    obtain ⟨rfl, rfl⟩ := hok
    obtain ⟨v, h1, h2⟩ := mj_gI_sp h
    exact lv_iload hx hb hdec (hl.2.2 _ _ h1) (hK ad lv _ S H locs cells slots ls hR hl hwl (hwt.pushI) h2)
  case iload_n n =>
    obtain ⟨rfl, rfl⟩ := hok
    obtain ⟨v, h1, h2⟩ := mj_gI_sp h
    exact lv_iload_n hx hb hdec rfl (hl.2.2 _ _ h1) (hK ad lv _ S H locs cells slots ls hR hl hwl (hwt.pushI) h2)
  case lload n =>
    obtain ⟨rfl, rfl⟩ := hok
    obtain ⟨v, h1, h2⟩ := mj_gL_sp h
    exact lv_lload hx hb hdec (hl.2.2 _ _ h1) (hK ad lv _ S H locs cells slots ls hR hl hwl (hwt.pushL) h2)
  case lload_n n =>
    obtain ⟨rfl, rfl⟩ := hok
    obtain ⟨v, h1, h2⟩ := mj_gL_sp h
    exact lv_lload_n hx hb hdec rfl (hl.2.2 _ _ h1) (hK ad lv _ S H locs cells slots ls hR hl hwl (hwt.pushL) h2)
  case aload n =>
    obtain ⟨rfl, rfl⟩ := hok
    rcases mj_gA_sp h with ⟨v, h1, h2⟩ | ⟨h1, h2⟩
    · exact lv_aload hx hb hdec (hl.2.2 _ _ h1) (hK ad lv _ S H locs cells slots ls hR hl hwl (hwt.push (hwl _ _ h1)) h2)
    · exact lv_aloadN hx hb hdec (hl.2.2 _ _ h1) (hK ad lv _ S H locs cells slots ls hR hl hwl (hwt.pushN) h2)
  case aload_n n =>
    obtain ⟨rfl, rfl⟩ := hok
    rcases mj_gA_sp h with ⟨v, h1, h2⟩ | ⟨h1, h2⟩
    · exact lv_aload_n hx hb hdec rfl (hl.2.2 _ _ h1) (hK ad lv _ S H locs cells slots ls hR hl hwl (hwt.push (hwl _ _ h1)) h2)
    · exact lv_aload_nN hx hb hdec rfl (hl.2.2 _ _ h1) (hK ad lv _ S H locs cells slots ls hR hl hwl (hwt.pushN) h2)
  case istore n =>
    obtain ⟨⟨rfl, rfl⟩, hn⟩ := hok
    obtain ⟨v, r, rfl, h2⟩ := mj_pI_sp h
    exact lv_istore hx hb hdec hl.has hn rfl (fun ls' hl' => hK ad _ r S H locs cells slots ls' hR (mj_lr.store1 (v := .int v) hl') (hwl.store trivial) hwt.tail h2)
  case istore_n n =>
    obtain ⟨⟨rfl, rfl⟩, hn⟩ := hok
    obtain ⟨v, r, rfl, h2⟩ := mj_pI_sp h
    exact lv_istore_n hx hb hdec rfl hl.has hn rfl (fun ls' hl' => hK ad _ r S H locs cells slots ls' hR (mj_lr.store1 (v := .int v) hl') (hwl.store trivial) hwt.tail h2)
  case lstore n =>
    obtain ⟨⟨rfl, rfl⟩, hn⟩ := hok
    obtain ⟨v, r, rfl, h2⟩ := mj_pL_sp h
    exact lv_lstore hx hb hdec hl.has hn rfl (fun ls' hl' => hK ad _ r S H locs cells slots ls' hR (mj_lr.store2 (v := v) hl') hwl.store2 hwt.tail h2)
  case lstore_n n =>
    obtain ⟨⟨rfl, rfl⟩, hn⟩ := hok
    obtain ⟨v, r, rfl, h2⟩ := mj_pL_sp h
    exact lv_lstore_n hx hb hdec rfl hl.has hn rfl (fun ls' hl' => hK ad _ r S H locs cells slots ls' hR (mj_lr.store2 (v := v) hl') hwl.store2 hwt.tail h2)
  case astore n =>
    obtain ⟨⟨rfl, rfl⟩, hn⟩ := hok
    obtain ⟨v, r, rfl, h2⟩ := mj_pR_sp h
    exact lv_astore hx hb hdec hl.has hn rfl (fun ls' hl' => hK ad _ r S H locs cells slots ls' hR (mj_lr.store1 (v := .ref v) hl') (hwl.store hwt.head) hwt.tail h2)
  case astore_n n =>
    obtain ⟨⟨rfl, rfl⟩, hn⟩ := hok
    obtain ⟨v, r, rfl, h2⟩ := mj_pR_sp h
    exact lv_astore_n hx hb hdec rfl hl.has hn rfl (fun ls' hl' => hK ad _ r S H locs cells slots ls' hR (mj_lr.store1 (v := .ref v) hl') (hwl.store hwt.head) hwt.tail h2)
  case iinc n z =>
    obtain ⟨⟨rfl, rfl, hk⟩, hn⟩ := hok
    obtain ⟨v, h1, h2⟩ := mj_gI_sp h
    obtain ⟨j, hj⟩ := List.getElem?_of_mem (mj_ps_mem (ad := ad) (q := (a, .int v)) |>.mpr ⟨_, h1, rfl⟩)
    exact lv_iinc (v := v + k) hx hb hdec hl.has hj (by rw [hk]) hn rfl (fun ls' hl' => hK ad _ st S H locs cells slots ls' hR (mj_lr.store1 (v := .int (v + k)) hl') (hwl.store trivial) hwt h2)
  case iadd =>
    subst hok
    obtain ⟨y, r, rfl, h1⟩ := mj_pI_sp h
    obtain ⟨z, r, rfl, h2⟩ := mj_pI_sp h1
    exact lv_iadd hx hb hdec (hK ad lv _ S H locs cells slots ls hR hl hwl hwt.tail.tail.pushI h2)
  case isub =>
    subst hok
    obtain ⟨y, r, rfl, h1⟩ := mj_pI_sp h
    obtain ⟨z, r, rfl, h2⟩ := mj_pI_sp h1
    exact lv_isub hx hb hdec (hK ad lv _ S H locs cells slots ls hR hl hwl hwt.tail.tail.pushI h2)
  case imul =>
    subst hok
    obtain ⟨y, r, rfl, h1⟩ := mj_pI_sp h
    obtain ⟨z, r, rfl, h2⟩ := mj_pI_sp h1
    exact lv_imul hx hb hdec (hK ad lv _ S H locs cells slots ls hR hl hwl hwt.tail.tail.pushI h2)
  case iand =>
    subst hok
    obtain ⟨y, r, rfl, h1⟩ := mj_pI_sp h
    obtain ⟨z, r, rfl, h2⟩ := mj_pI_sp h1
    exact lv_iand hx hb hdec (hK ad lv _ S H locs cells slots ls hR hl hwl hwt.tail.tail.pushI h2)
  case ior =>
    subst hok
    obtain ⟨y, r, rfl, h1⟩ := mj_pI_sp h
    obtain ⟨z, r, rfl, h2⟩ := mj_pI_sp h1
    exact lv_ior hx hb hdec (hK ad lv _ S H locs cells slots ls hR hl hwl hwt.tail.tail.pushI h2)
  case ixor =>
    subst hok
    obtain ⟨y, r, rfl, h1⟩ := mj_pI_sp h
    obtain ⟨z, r, rfl, h2⟩ := mj_pI_sp h1
    exact lv_ixor hx hb hdec (hK ad lv _ S H locs cells slots ls hR hl hwl hwt.tail.tail.pushI h2)
  case ishl =>
    subst hok
    obtain ⟨y, r, rfl, h1⟩ := mj_pI_sp h
    obtain ⟨z, r, rfl, h2⟩ := mj_pI_sp h1
    exact lv_ishl hx hb hdec (hK ad lv _ S H locs cells slots ls hR hl hwl hwt.tail.tail.pushI h2)
  case ishr =>
    subst hok
    obtain ⟨y, r, rfl, h1⟩ := mj_pI_sp h
    obtain ⟨z, r, rfl, h2⟩ := mj_pI_sp h1
    exact lv_ishr hx hb hdec (hK ad lv _ S H locs cells slots ls hR hl hwl hwt.tail.tail.pushI h2)
  case ladd =>
    subst hok
    obtain ⟨y, r, rfl, h1⟩ := mj_pL_sp h
    obtain ⟨z, r, rfl, h2⟩ := mj_pL_sp h1
    exact lv_ladd hx hb hdec (hK ad lv _ S H locs cells slots ls hR hl hwl hwt.tail.tail.pushL h2)
  case lsub =>
    subst hok
    obtain ⟨y, r, rfl, h1⟩ := mj_pL_sp h
    obtain ⟨z, r, rfl, h2⟩ := mj_pL_sp h1
    exact lv_lsub hx hb hdec (hK ad lv _ S H locs cells slots ls hR hl hwl hwt.tail.tail.pushL h2)
  case lmul =>
    subst hok
    obtain ⟨y, r, rfl, h1⟩ := mj_pL_sp h
    obtain ⟨z, r, rfl, h2⟩ := mj_pL_sp h1
    exact lv_lmul hx hb hdec (hK ad lv _ S H locs cells slots ls hR hl hwl hwt.tail.tail.pushL h2)
  case land =>
    subst hok
    obtain ⟨y, r, rfl, h1⟩ := mj_pL_sp h
    obtain ⟨z, r, rfl, h2⟩ := mj_pL_sp h1
    exact lv_land hx hb hdec (hK ad lv _ S H locs cells slots ls hR hl hwl hwt.tail.tail.pushL h2)
  case lor =>
    subst hok
    obtain ⟨y, r, rfl, h1⟩ := mj_pL_sp h
    obtain ⟨z, r, rfl, h2⟩ := mj_pL_sp h1
    exact lv_lor hx hb hdec (hK ad lv _ S H locs cells slots ls hR hl hwl hwt.tail.tail.pushL h2)
  case lushr =>
    subst hok
    obtain ⟨y, r, rfl, h1⟩ := mj_pI_sp h
    obtain ⟨z, r, rfl, h2⟩ := mj_pL_sp h1
    exact lv_lushr hx hb hdec rfl (hK ad lv _ S H locs cells slots ls hR hl hwl hwt.tail.tail.pushL h2)
  case lshl =>
    subst hok
    obtain ⟨y, r, rfl, h1⟩ := mj_pI_sp h
    obtain ⟨z, r, rfl, h2⟩ := mj_pL_sp h1
    exact lv_lshl hx hb hdec rfl (hK ad lv _ S H locs cells slots ls hR hl hwl hwt.tail.tail.pushL h2)
  case lshr =>
    subst hok
    obtain ⟨y, r, rfl, h1⟩ := mj_pI_sp h
    obtain ⟨z, r, rfl, h2⟩ := mj_pL_sp h1
    exact lv_lshr hx hb hdec rfl (hK ad lv _ S H locs cells slots ls hR hl hwl hwt.tail.tail.pushL h2)
  case idiv =>
    subst hok
    obtain ⟨y, r, rfl, h1⟩ := mj_pI_sp h
    obtain ⟨z, r, rfl, hne, h2⟩ := mj_pI_sp h1
    exact lv_idiv hx hb hdec hne (hK ad lv _ S H locs cells slots ls hR hl hwl hwt.tail.tail.pushI h2)
  case irem =>
    subst hok
    obtain ⟨y, r, rfl, h1⟩ := mj_pI_sp h
    obtain ⟨z, r, rfl, hne, h2⟩ := mj_pI_sp h1
    exact lv_irem hx hb hdec hne (hK ad lv _ S H locs cells slots ls hR hl hwl hwt.tail.tail.pushI h2)
  case ldiv =>
    subst hok
    obtain ⟨y, r, rfl, h1⟩ := mj_pL_sp h
    obtain ⟨z, r, rfl, hne, h2⟩ := mj_pL_sp h1
    exact lv_ldiv hx hb hdec hne (hK ad lv _ S H locs cells slots ls hR hl hwl hwt.tail.tail.pushL h2)
  case lrem =>
    subst hok
    obtain ⟨y, r, rfl, h1⟩ := mj_pL_sp h
    obtain ⟨z, r, rfl, hne, h2⟩ := mj_pL_sp h1
    exact lv_lrem hx hb hdec hne (hK ad lv _ S H locs cells slots ls hR hl hwl hwt.tail.tail.pushL h2)
  case ineg =>
    subst hok
    obtain ⟨y, r, rfl, h1⟩ := mj_pI_sp h
    exact lv_ineg hx hb hdec (hK ad lv _ S H locs cells slots ls hR hl hwl hwt.tail.pushI h1)
  case lneg =>
    subst hok
    obtain ⟨y, r, rfl, h1⟩ := mj_pL_sp h
    exact lv_lneg hx hb hdec (hK ad lv _ S H locs cells slots ls hR hl hwl hwt.tail.pushL h1)
  case i2c =>
    subst hok
    obtain ⟨y, r, rfl, h1⟩ := mj_pI_sp h
    exact lv_i2c hx hb hdec rfl (hK ad lv _ S H locs cells slots ls hR hl hwl hwt.tail.pushI h1)
  case i2b =>
    subst hok
    obtain ⟨y, r, rfl, h1⟩ := mj_pI_sp h
    exact lv_i2b hx hb hdec rfl (hK ad lv _ S H locs cells slots ls hR hl hwl hwt.tail.pushI h1)
  case i2l =>
    subst hok
    obtain ⟨y, r, rfl, h1⟩ := mj_pI_sp h
    exact lv_i2l hx hb hdec rfl (hK ad lv _ S H locs cells slots ls hR hl hwl hwt.tail.pushL h1)
  case l2i =>
    subst hok
    obtain ⟨y, r, rfl, h1⟩ := mj_pL_sp h
    exact lv_l2i hx hb hdec rfl (hK ad lv _ S H locs cells slots ls hR hl hwl hwt.tail.pushI h1)
  case lcmp =>
    subst hok
    obtain ⟨y, r, rfl, h1⟩ := mj_pL_sp h
    obtain ⟨z, r, rfl, h2⟩ := mj_pL_sp h1
    exact W.lcmp hx hb hdec (hK ad lv _ S H locs cells slots ls hR hl hwl hwt.tail.tail.pushI h2)
  case dup =>
    subst hok
    obtain ⟨v, r, rfl, hv, h1⟩ := mj_pV_sp h
    exact lv_dup hx hb hdec (by rw [mj_tr_cat]; exact hv) (hK ad lv _ S H locs cells slots ls hR hl hwl (hwt.push hwt.head) h1)
  case pop =>
    subst hok
    obtain ⟨v, r, rfl, hv, h1⟩ := mj_pV_sp h
    exact lv_pop hx hb hdec (by rw [mj_tr_cat]; exact hv) (hK ad lv _ S H locs cells slots ls hR hl hwl hwt.tail h1)
  case goto off =>
    obtain ⟨rfl, hk⟩ := hok
    exact lv_goto hx hb hdec hk (hN a ad lv st S H locs cells slots ls hR hl hwl hwt h)
  case ifCond cd off =>
    obtain ⟨rfl, hk⟩ := hok
    obtain ⟨y, r, rfl, h1⟩ := mj_pI_sp h
    have kt := fun q => hN a ad lv r S H locs cells slots ls hR hl hwl hwt.tail (h1.1 q)
    have kf := fun q => hK ad lv r S H locs cells slots ls hR hl hwl hwt.tail (h1.2 q)
    cases cd
    · exact lv_if_eq hx hb hdec hk kt kf
    · exact lv_if_ne hx hb hdec hk kt (fun q => kf (fun n => n q))
    · exact lv_if_lt hx hb hdec hk kt kf
    · exact lv_if_ge hx hb hdec hk kt kf
    · exact lv_if_gt hx hb hdec hk kt kf
    · exact lv_if_le hx hb hdec hk kt kf
  case if_icmp cd off =>
    obtain ⟨rfl, hk⟩ := hok
    obtain ⟨y, r, rfl, h1⟩ := mj_pI_sp h
    obtain ⟨z, r, rfl, h1⟩ := mj_pI_sp h1
    have kt := fun q => hN a ad lv r S H locs cells slots ls hR hl hwl hwt.tail.tail (h1.1 q)
    have kf := fun q => hK ad lv r S H locs cells slots ls hR hl hwl hwt.tail.tail (h1.2 q)
    cases cd
    · exact lv_icmp_eq hx hb hdec hk kt kf
    · exact lv_icmp_ne hx hb hdec hk kt (fun q => kf (fun n => n q))
    · exact lv_icmp_lt hx hb hdec hk kt kf
    · exact lv_icmp_ge hx hb hdec hk kt kf
    · exact lv_icmp_gt hx hb hdec hk kt kf
    · exact lv_icmp_le hx hb hdec hk kt kf
  case ldc n =>
    obtain ⟨rfl, hk⟩ := hok
    rcases hk with ⟨rfl, hk⟩ | ⟨hk, hk2⟩
    · exact lv_ldc hx hb hown (hwd _ hk) hdec (hK ad lv _ S H locs cells slots ls hR hl hwl hwt.pushI h)
    · obtain ⟨tx, hz⟩ := hls n rfl hk
      split at h
      · exact absurd rfl hk
      · have e : ad a = aE a := hR.2.2.2.2.1.2 a (Or.inr hk2)
        refine va_ldcS hx hb hown hz hdec ?_
        rw [← e]
        exact hK ad lv (.ref a :: st) S H locs cells slots ls hR hl hwl (hwt.push (Or.inr hk2)) h
  case tableswitch dd lo hi offs =>
    obtain ⟨hk, hsz, hhi, hj⟩ := hok
    obtain ⟨y, r, rfl, h1⟩ := mj_pI_sp h
    rcases mj_sw_tab sw h1 with ⟨j, k', t', q1, q2, q3⟩ | ⟨q1, q2⟩
    · have hjl : j < offs.size := by rw [hsz]; exact (List.getElem?_eq_some_iff.mp q1).1
      obtain ⟨o, k2, t2, w1, w2, w3, w4⟩ := hj j hjl
      rw [w2] at q1
      cases q1
      subst q2
      have e : (y.toInt - lo).toNat = j := by omega
      exact lv_tableIn hx hb hdec (by omega) (by omega) (by rw [e]; exact w1) w4 (hN t' ad lv r S H locs cells slots ls hR hl hwl hwt.tail q3)
    · refine lv_tableOut hx hb hdec ?_ hk (hN a ad lv r S H locs cells slots ls hR hl hwl hwt.tail q2)
      by_cases hlo : y.toInt < lo
      · exact Or.inl hlo
      · by_cases hhi2 : hi < y.toInt
        · exact Or.inr hhi2
        · exfalso
          obtain ⟨o, k2, t2, w1, w2, w3, w4⟩ := hj (y.toInt - lo).toNat (by omega)
          exact q1 _ _ _ w2 (Int32.toInt_inj.mp (by omega))
  case lookupswitch dd ps =>
    obtain ⟨hk, hp, hps⟩ := hok
    obtain ⟨y, r, rfl, h1⟩ := mj_pI_sp h
    obtain ⟨tgt, q1, q2⟩ := mj_sw_look hk sw h1
    exact lv_lookup hx hb hdec hp (by rw [hps]) q2 (hN tgt ad lv r S H locs cells slots ls hR hl hwl hwt.tail q1)
  case getfield n =>
    obtain ⟨rfl, C, T, N, hc, hbN, hlk2, htg⟩ := hok
    obtain ⟨o, r, rfl, h1⟩ := mj_pR_sp h
    obtain ⟨h2, h3⟩ := mj_tt_sp h1
    obtain ⟨n', ho, hbn⟩ := mj_ob_sp h2
    refine mj_h_get hx hb hown hKt hwd hco hR ho hbn hc hbN hlk2 hdec ?_
    rcases htg with ⟨rfl, hft⟩ | ⟨ht, hft⟩
    · have e : mj_fv ad S o b (ft a b) = .int (S.2.1 o b) := by
        unfold mj_fv
        split
        · rename_i q; exact absurd q hft
        · rfl
      rw [e]
      exact hK ad lv (.int _ :: r) S H locs cells slots ls hR hl hwl hwt.tail.pushI h3
    · split at h3
      · exact absurd rfl ht
      · obtain ⟨q, q1, q2⟩ := mj_so_sp h3
        have e : mj_fv ad S o b (ft a b) = .ref (ad q) := by
          rw [hft]
          unfold mj_fv
          simp only [q1]
        rw [e]
        exact hK ad lv (.ref q :: r) S H locs cells slots ls hR hl hwl (hwt.tail.push (hR.2.2.2.1.2 _ _ _ q1)) q2
  case putfield n =>
    obtain ⟨rfl, C, T, N, ty, hc, hbN, hlk2, hfin, hty, htg⟩ := hok
    have hfin' : (T b).2.2.2 = false ∨ ((T b).2.2.2 = true ∧ meth.name = "<init>" ∧ (T b).1 = own) := hfin.imp id fun q => ⟨q.1, g1 q.2.1, q.2.2⟩
    have notr : ∀ {S' : mj_S} {j : Nat} {v : Int32} {o : Nat}, S' = (S.1, mj_up S.2.1 o b v, S.2.2) → j ≠ b → mj_fv ad S' o j (ft a j) = mj_fv ad S o j (ft a j) := by
      intro S' j v o hS hj
      subst hS
      simp [mj_fv, mj_up, hj]
    have noti : ∀ {v : Int32} {o : Nat}, ft a b ≠ 2 → mj_fv ad (S.1, mj_up S.2.1 o b v, S.2.2) o b (ft a b) = .int v := by
      intro v o hft
      unfold mj_fv
      split
      · rename_i q; exact absurd q hft
      · simp [mj_up]
    rcases htg with ⟨rfl, rfl, hft⟩ | ⟨rfl, hrt2, hft⟩ | ⟨rfl, rfl, hft⟩
    · obtain ⟨v, r, rfl, h1⟩ := mj_pI_sp h
      obtain ⟨o, r, rfl, h1⟩ := mj_pR_sp h1
      obtain ⟨h2, h3⟩ := mj_tt_sp h1
      obtain ⟨n', ho, hbn⟩ := mj_ob_sp h2
      exact mj_h_put hx hb hown hKt hwd hco hR (v := .int v) (S' := (S.1, mj_up S.2.1 o b v, S.2.2)) ho hbn hc hbN hlk2 hdec hfin' hty rfl rfl rfl (fun b' hb' => ⟨mj_up_ne hb', rfl, rfl⟩) (fun j q hq => hR.2.2.2.1.2 o j q hq) rfl (noti hft) (fun j hj => notr rfl hj)
        (fun H' locs' hR' => hK ad lv r _ H' locs' cells slots ls hR' hl hwl hwt.tail.tail h3)
    · obtain ⟨v, r, rfl, h1⟩ := mj_pR_sp h
      obtain ⟨o, r, rfl, h1⟩ := mj_pR_sp h1
      obtain ⟨h2, h3⟩ := mj_tt_sp h1
      obtain ⟨n', ho, hbn⟩ := mj_ob_sp h2
      refine mj_h_put hx hb hown hKt hwd hco hR (v := .ref (ad v)) (S' := (S.1, S.2.1, S.2.2.1, mj_up S.2.2.2.1 o b (some v), S.2.2.2.2)) ho hbn hc hbN hlk2 hdec hfin' hty ?_ ?_ rfl (fun b' hb' => ⟨rfl, rfl, mj_up_ne hb'⟩) ?_ rfl ?_ ?_
        (fun H' locs' hR' => hK ad lv r _ H' locs' cells slots ls hR' hl hwl hwt.tail.tail h3)
      · rcases hrt2 with ⟨n, rfl⟩ | ⟨t, rfl⟩ <;> rfl
      · rcases hrt2 with ⟨n, rfl⟩ | ⟨t, rfl⟩ <;> rfl
      · intro j q hq
        simp only [mj_up] at hq
        split at hq
        · split at hq
          · cases hq; exact hwt.head
          · exact hR.2.2.2.1.2 o j q hq
        · exact hR.2.2.2.1.2 o j q hq
      · rw [hft]
        simp [mj_fv, mj_up]
      · intro j hj
        simp [mj_fv, mj_up, hj]
    · obtain ⟨v, r, rfl, h1⟩ := mj_pI_sp h
      obtain ⟨o, r, rfl, h1⟩ := mj_pR_sp h1
      obtain ⟨h2, hv, h3⟩ := mj_tt_sp h1
      obtain ⟨n', ho, hbn⟩ := mj_ob_sp h2
      refine mj_h_put hx hb hown hKt hwd hco hR (v := .int v) (S' := (S.1, mj_up S.2.1 o b v, S.2.2)) ho hbn hc hbN hlk2 hdec hfin' hty ?_ ?_ rfl (fun b' hb' => ⟨mj_up_ne hb', rfl, rfl⟩) (fun j q hq => hR.2.2.2.1.2 o j q hq) rfl (noti hft) (fun j hj => notr rfl hj)
        (fun H' locs' hR' => hK ad lv r _ H' locs' cells slots ls hR' hl hwl hwt.tail.tail h3)
      · rcases hv with rfl | rfl <;> rfl
      · rcases hv with rfl | rfl <;> rfl
  case iaload =>
    subst hok
    split at h
    · unfold mj_ald at h
      obtain ⟨y, r, rfl, h1⟩ := mj_pI_sp h
      obtain ⟨o, r, rfl, h1⟩ := mj_pR_sp h1
      obtain ⟨n, h2, h3, h4⟩ := mj_so_sp h1
      exact mj_h_ald hx hb hKt hR (mj_ar_sp h2) h3 hdec (Or.inl ⟨rfl, rfl⟩) (hK ad lv (.int _ :: r) S H locs cells slots ls hR hl hwl hwt.tail.tail.pushI h4)
    · obtain ⟨y, r, rfl, h1⟩ := mj_pI_sp h
      obtain ⟨o, r, rfl, rfl, h3, h4⟩ := mj_pR_sp h1
      have e9 : ad 900000 = aE 900000 := hR.2.2.2.2.1.2 _ (Or.inr (Nat.le_refl _))
      show W p l e R s m args below meth c H locs cells slots Z (F0 m pc ls (.int y :: .ref (ad 900000) :: r.map (mj_tr ad)))
      rw [e9]
      exact va_sld hx hb g6.1 g6.2.1 (A := fun q => B ≤ q) g6.2.2 hR.2.2.1 h3 hdec (hK ad lv (.int _ :: r) S H locs cells slots ls hR hl hwl hwt.tail.tail.pushI h4)
  case caload =>
    subst hok
    unfold mj_ald at h
    obtain ⟨y, r, rfl, h1⟩ := mj_pI_sp h
    obtain ⟨o, r, rfl, h1⟩ := mj_pR_sp h1
    obtain ⟨n, h2, h3, h4⟩ := mj_so_sp h1
    exact mj_h_ald hx hb hKt hR (mj_ar_sp h2) h3 hdec (Or.inr (Or.inl ⟨rfl, rfl⟩)) (hK ad lv (.int _ :: r) S H locs cells slots ls hR hl hwl hwt.tail.tail.pushI h4)
  case baload =>
    subst hok
    split at h <;> unfold mj_ald at h
    · obtain ⟨y, r, rfl, h1⟩ := mj_pI_sp h
      obtain ⟨o, r, rfl, h1⟩ := mj_pR_sp h1
      obtain ⟨n, h2, h3, h4⟩ := mj_so_sp h1
      exact mj_h_ald hx hb hKt hR (mj_ar_sp h2) h3 hdec (Or.inr (Or.inr (Or.inl ⟨rfl, rfl⟩))) (hK ad lv (.int _ :: r) S H locs cells slots ls hR hl hwl hwt.tail.tail.pushI h4)
    · obtain ⟨y, r, rfl, h1⟩ := mj_pI_sp h
      obtain ⟨o, r, rfl, h1⟩ := mj_pR_sp h1
      obtain ⟨n, h2, h3, h4⟩ := mj_so_sp h1
      exact mj_h_ald hx hb hKt hR (mj_ar_sp h2) h3 hdec (Or.inr (Or.inr (Or.inr ⟨rfl, rfl⟩))) (hK ad lv (.int _ :: r) S H locs cells slots ls hR hl hwl hwt.tail.tail.pushI h4)
  case laload =>
    subst hok
    obtain ⟨y, r, rfl, h1⟩ := mj_pI_sp h
    obtain ⟨o, r, rfl, h1⟩ := mj_pR_sp h1
    obtain ⟨n, h2, h3, h4⟩ := mj_so_sp h1
    exact mj_h_lald hx hb hKt hR (mj_ar_sp h2) h3 hdec (hK ad lv (.long _ :: r) S H locs cells slots ls hR hl hwl hwt.tail.tail.pushL h4)
  case iastore =>
    subst hok
    unfold mj_ast at h
    obtain ⟨v, r, rfl, h1⟩ := mj_pI_sp h
    obtain ⟨y, r, rfl, h1⟩ := mj_pI_sp h1
    obtain ⟨o, r, rfl, h1⟩ := mj_pR_sp h1
    obtain ⟨n, h2, h3, h4⟩ := mj_so_sp h1
    exact mj_h_ast (nar := fun v => v) hx hb hKt hR (mj_ar_sp h2) h3 hdec (Or.inl ⟨rfl, rfl, rfl⟩) (fun H' locs' hR' => hK ad lv r _ H' locs' cells slots ls hR' hl hwl hwt.tail.tail.tail h4)
  case castore =>
    subst hok
    unfold mj_ast at h
    obtain ⟨v, r, rfl, h1⟩ := mj_pI_sp h
    obtain ⟨y, r, rfl, h1⟩ := mj_pI_sp h1
    obtain ⟨o, r, rfl, h1⟩ := mj_pR_sp h1
    obtain ⟨n, h2, h3, h4⟩ := mj_so_sp h1
    exact mj_h_ast (nar := fun v => vp_nar .char v) hx hb hKt hR (mj_ar_sp h2) h3 hdec (Or.inr (Or.inl ⟨rfl, rfl, rfl⟩)) (fun H' locs' hR' => hK ad lv r _ H' locs' cells slots ls hR' hl hwl hwt.tail.tail.tail h4)
  case bastore =>
    subst hok
    split at h <;> unfold mj_ast at h
    · obtain ⟨v, r, rfl, h1⟩ := mj_pI_sp h
      obtain ⟨y, r, rfl, h1⟩ := mj_pI_sp h1
      obtain ⟨o, r, rfl, h1⟩ := mj_pR_sp h1
      obtain ⟨n, h2, h3, h4⟩ := mj_so_sp h1
      exact mj_h_ast (nar := fun v => vp_nar .boolean v) hx hb hKt hR (mj_ar_sp h2) h3 hdec (Or.inr (Or.inr (Or.inl ⟨rfl, rfl, rfl⟩))) (fun H' locs' hR' => hK ad lv r _ H' locs' cells slots ls hR' hl hwl hwt.tail.tail.tail h4)
    · obtain ⟨v, r, rfl, h1⟩ := mj_pI_sp h
      obtain ⟨y, r, rfl, h1⟩ := mj_pI_sp h1
      obtain ⟨o, r, rfl, h1⟩ := mj_pR_sp h1
      obtain ⟨n, h2, h3, h4⟩ := mj_so_sp h1
      exact mj_h_ast (nar := fun v => vp_nar .byte v) hx hb hKt hR (mj_ar_sp h2) h3 hdec (Or.inr (Or.inr (Or.inr ⟨rfl, rfl, rfl⟩))) (fun H' locs' hR' => hK ad lv r _ H' locs' cells slots ls hR' hl hwl hwt.tail.tail.tail h4)
  case lastore =>
    subst hok
    obtain ⟨v, r, rfl, h1⟩ := mj_pL_sp h
    obtain ⟨y, r, rfl, h1⟩ := mj_pI_sp h1
    obtain ⟨o, r, rfl, h1⟩ := mj_pR_sp h1
    obtain ⟨n, h2, h3, h4⟩ := mj_so_sp h1
    exact mj_h_last hx hb hKt hR (mj_ar_sp h2) h3 hdec (fun H' locs' hR' => hK ad lv r _ H' locs' cells slots ls hR' hl hwl hwt.tail.tail.tail h4)
  case arraylength =>
    subst hok
    split at h
    · obtain ⟨o, r, rfl, h1⟩ := mj_pR_sp h
      obtain ⟨n, h2, h4⟩ := mj_so_sp h1
      have ha := mj_ws_at (ft := ft) (ka := ka) (ad := ad) (mj_ar_sp h2)
      rw [mj_ent_arr (by decide)] at ha
      exact va_alen hx hb hKt hR.1 o 0 ha rfl rfl hdec (hK ad lv (.int _ :: r) S H locs cells slots ls hR hl hwl hwt.tail.pushI h4)
    · obtain ⟨o, r, rfl, rfl, h4⟩ := mj_pR_sp h
      have e9 : ad 900000 = aE 900000 := hR.2.2.2.2.1.2 _ (Or.inr (Nat.le_refl _))
      show W p l e R s m args below meth c H locs cells slots Z (F0 m pc ls (.ref (ad 900000) :: r.map (mj_tr ad)))
      rw [e9]
      exact va_slen hx hb g6.1 g6.2.1 (A := fun q => B ≤ q) g6.2.2 hR.2.2.1 hdec (hK ad lv (.int _ :: r) S H locs cells slots ls hR hl hwl hwt.tail.pushI h4)
  case new n =>
    obtain ⟨rfl, hk⟩ := hok
    rcases hk with hk | ⟨rfl, C, T, hc, w1, w2, w3⟩
    · exact hT n rfl hk ad lv st S H locs cells slots ls hR hl hwl hwt h'
    · obtain ⟨⟨c1, c2⟩, h1⟩ := h
      have hw := hR.2.2.2.1
      have hlen : S.2.2.2.2.1 + 1 ≤ 601024 ∧ S.2.2.2.2.2 + b ≤ 7293034 := by omega
      have q6 := hR.2.2.2.2.2.1
      have q7 := hR.2.2.2.2.2.2
      refine mj_h_new hx hb hown hKt hwd hco hA hR hc w1 w2 w3 hlen (by omega) (by omega) hdec (fun q H' hR' => ?_)
      have hu : S.1.length ≤ (mj_nS S a b).1.length := by simp [mj_nS]
      rw [← mj_map_ad (ad' := mj_nA S ad q) hwt (fun i hi => mj_nA_old hw hi), show Value.ref q = mj_tr (mj_nA S ad q) (.ref S.1.length) by simp [mj_tr, mj_nA_new]]
      exact hK (mj_nA S ad q) lv (.ref S.1.length :: st) (mj_nS S a b) H' locs _ _ ls hR' (hl.ad hwl (fun i hi => mj_nA_old hw hi)) (hwl.up hu) ((hwt.up hu).push (Or.inl (by simp [mj_nS]))) h1
  case newarray ty =>
    obtain ⟨rfl, hty, hwd2⟩ := hok
    obtain ⟨y, r, rfl, h0, ⟨c1, c2⟩, h1⟩ := mj_pI_sp h
    have hw := hR.2.2.2.1
    have hlen : S.2.2.2.2.1 + 1 ≤ 601024 ∧ S.2.2.2.2.2 + y.toNatClampNeg ≤ 7293034 := by omega
    have q6 := hR.2.2.2.2.2.1
    have q7 := hR.2.2.2.2.2.2
    refine mj_h_newa hx hb hKt hwd hA hR hty hwd2 h0 (by omega) hlen (by omega) (by omega) hdec (fun q H' hR' => ?_)
    have hu : S.1.length ≤ (mj_nS S (1000 + t) y.toNatClampNeg).1.length := by simp [mj_nS]
    rw [← mj_map_ad (ad' := mj_nA S ad q) hwt.tail (fun i hi => mj_nA_old hw hi), show Value.ref q = mj_tr (mj_nA S ad q) (.ref S.1.length) by simp [mj_tr, mj_nA_new]]
    exact hK (mj_nA S ad q) lv (.ref S.1.length :: r) (mj_nS S (1000 + t) y.toNatClampNeg) H' locs _ _ ls hR' (hl.ad hwl (fun i hi => mj_nA_old hw hi)) (hwl.up hu) ((hwt.tail.up hu).push (Or.inl (by simp [mj_nS]))) h1
  case invokestatic n => exact hC n (Or.inl rfl) ad lv st S H locs cells slots ls hR hl hwl hwt h'
  case invokevirtual n => exact hC n (Or.inr (Or.inl rfl)) ad lv st S H locs cells slots ls hR hl hwl hwt h'
  case invokespecial n =>
    obtain ⟨rfl, hk⟩ := hok
    rcases hk with rfl | ⟨hk, w1, w2, w3⟩
    · exact hC n (Or.inr (Or.inr ⟨rfl, rfl⟩)) ad lv st S H locs cells slots ls hR hl hwl hwt h'
    · split at h
      · exact absurd rfl hk
      · obtain ⟨o, r, rfl, h1⟩ := mj_pR_sp h
        obtain ⟨rfl, h2⟩ := mj_p0_sp h1
        exact W.objInit hx hb hown (hwd _ w1) (hwd _ w2) (hwd _ w3) rfl (by rw [hml]; exact hl.1) rfl hdec (by omega) (by show 2 * 0 + 0 + 12 ≤ _; omega) (hK ad lv [] S H locs cells slots ls hR hl hwl hwt.tail h2)
  case checkcast n =>
    obtain ⟨rfl, hk⟩ := hok
    obtain ⟨o, r, rfl, h1⟩ := mj_pR_sp h
    obtain ⟨n', h2, h4⟩ := mj_so_sp h1
    have ha := mj_ws_at (ft := ft) (ka := ka) (ad := ad) (mj_ar_sp h2)
    rw [mj_ent_arr (by decide)] at ha
    exact va_castA hx hb hown (hwd _ hk) hR.1 o ha (va_nm_int (hKt.2 0 _ rfl).2) hdec (hK ad lv (.ref o :: r) S H locs cells slots ls hR hl hwl hwt h4)
  case ireturn =>
    obtain ⟨rfl, hk⟩ := hok
    obtain ⟨v, r, rfl, h1⟩ := mj_pI_sp h
    obtain ⟨rfl, h2⟩ := mj_p0_sp h1
    have fin : Q (.inl (some (.int v))) S → ∀ t : State, MQ below (fun _ _ o t => o = .returned (some (.int v)) ∧ t.heap = H) args s cells slots (fun q => B ≤ q) t → Z t := by
      rintro q t ⟨o, w1, w2, ⟨rfl, w4⟩, L, ⟨-, w5, w6⟩, w7⟩
      exact hQ ad (some (.int v)) S H locs cells slots t hR q (fun w hw => by cases hw; trivial) w4 w1 w2 w5 ⟨L, w7, w6⟩
    rcases hk with ⟨rfl, hk⟩ | ⟨hk, hk2⟩
    · exact mj_wcons (W.iret hx hb (hrt.trans hk) (fun t ht _ => ⟨rfl, ht⟩) hR.2.2.1.2.2 hdec hlk) (fin h2)
    · split at h2
      · exact absurd rfl hk
      · exact mj_wcons (W.zret hx hb (hrt.trans hk2) (by rcases h2.1 with rfl | rfl <;> rfl) (fun t ht _ => ⟨rfl, ht⟩) hR.2.2.1.2.2 hdec hlk) (fin h2.2)
  case return_ =>
    obtain ⟨rfl, hk⟩ := hok
    obtain ⟨rfl, h2⟩ := mj_p0_sp h
    refine mj_wcons (W.vret (Qc := fun _ _ o t => o = .returned none ∧ t.heap = H) (free := fun q => B ≤ q) hx hb (hrt.trans hk) (fun t ht _ => ⟨rfl, ht⟩) hR.2.2.1.2.2 hdec hlk) ?_
    rintro t ⟨o, w1, w2, ⟨rfl, w4⟩, L, ⟨-, w5, w6⟩, w7⟩
    exact hQ ad none S H locs cells slots t hR h2 (fun w hw => by cases hw) w4 w1 w2 w5 ⟨L, w7, w6⟩
  all_goals exact h.elim
end MJI
