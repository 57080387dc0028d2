/-! ONE INSTRUCTION, against the machine -/
theorem mj_wT.pushI {n : Nat} {x : Int32} {r : List Value} (h : mj_wT n r) : mj_wT n (.int x :: r) := h.push trivial
theorem mj_wT.pushL {n : Nat} {x : Int64} {r : List Value} (h : mj_wT n r) : mj_wT n (.long x :: r) := h.push trivial
theorem mj_wT.pushN {n : Nat} {r : List Value} (h : mj_wT n r) : mj_wT n (.null :: r) := h.push trivial
section MJI
variable {p : Program} {l : Launch} {e : Env} {R : Room} {s : State} {m : MethodId} {args : Array Value} {below : List Frame} {meth : Method} {c : Code} {Z : State → Prop}
variable {D : va_G} {cl : List vw_C} {ft : Nat → Nat → Nat} {ka : Nat → ClassId} {B : Nat} {E : mj_S} {aE : Nat → Nat} {cc : ByteArray} {nL : Nat} {own : String} {Wd : Cond → Prop} {ini : Prop} {rt : Option FieldType} {X : mj_X} {hd : mj_H} {cls : mj_C} {nx : mj_N} {Q : mj_Q}
/-- what holds behind an instruction brings the machine on -/
def mj_Kok (p : Program) (l : Launch) (e : Env) (R : Room) (s : State) (m : MethodId) (args : Array Value) (below : List Frame) (meth : Method) (c : Code) (Z : State → Prop) (D : va_G) (cl : List vw_C) (ft : Nat → Nat → Nat) (ka : Nat → ClassId) (B : Nat) (E : mj_S) (aE : Nat → Nat) (nL : Nat) (K : mj_K) (pc : Nat) : Prop :=
  ∀ (ad : Nat → Nat) (lv : mj_LV) (st : List Value) (S : mj_S) (H : Heap) (locs : List Loc) (cells slots : Nat) (ls : Array Slot), mj_Rh D cl ft ka B s E aE ad S H locs cells slots → mj_lr ad nL lv ls → mj_wL S.1.length lv → mj_wT S.1.length st → K lv st S → W p l e R s m args below meth c H locs cells slots Z (F0 m pc ls (st.map (mj_tr ad)))
/-- a return's end -/
def mj_Qok (s : State) (below : List Frame) (Z : State → Prop) (D : va_G) (cl : List vw_C) (ft : Nat → Nat → Nat) (ka : Nat → ClassId) (B : Nat) (E : mj_S) (aE : Nat → Nat) (Q : mj_Q) : Prop :=
  ∀ (ad : Nat → Nat) (v : Option Value) (S : mj_S) (H : Heap) (locs : List Loc) (cells slots : Nat) (t : State), mj_Rh D cl ft ka B s E aE ad S H locs cells slots → Q (.inl v) S → (∀ w, v = some w → mj_wv S.1.length w) → t.heap = H → t.status = .running → Ended t below (.returned (v.map (mj_tr ad))) → s.WarmedH t.vm → s.sameButNew ({ t with vm := s.vm } : State) locs cells slots → Z t
set_option maxHeartbeats 4000000 in
theorem mj_in_snd (hx : p.tables.exec = Jvm.exec) (hb : c.code = cc) (hml : c.maxLocals = nL) (hown : s.vm.findClass own = some m.cls) (hlk : meth.locks = false) (hrt : meth.sig.returnType = rt) (hwd : ∀ w, Wd w → w.before args s = true) (hKt : va_K D cl (mj_tys ka) s)
    {x : mj_I} (hdec : decode cc x.1 = .ok (x.2.1, x.2.2.1)) (hok : mj_iok Wd cl ft own nL ini rt x) {K : mj_K} (hK : mj_Kok p l e R s m args below meth c Z D cl ft ka B E aE nL K (x.1 + x.2.2.1)) (hN : ∀ pc, mj_Kok p l e R s m args below meth c Z D cl ft ka B E aE nL (fun lv st S => nx pc lv st S Q) pc) (hQ : mj_Qok s below Z D cl ft ka B E aE Q)
    {ad : Nat → Nat} {lv : mj_LV} {st : List Value} {S : mj_S} {H : Heap} {locs : List Loc} {cells slots : Nat} {ls : Array Slot} (hR : mj_Rh D cl ft ka B s E aE ad S H locs cells slots) (hl : mj_lr ad nL lv ls) (hwl : mj_wL S.1.length lv) (hwt : mj_wT S.1.length st) (h : mj_in X hd cls nx Q x K lv st S) :
    W p l e R s m args below meth c H locs cells slots Z (F0 m x.1 ls (st.map (mj_tr ad))) := by
  obtain ⟨pc, i, len, ⟨a, b, t⟩, k, kl, sw⟩ := x
  unfold mj_in at h
  unfold mj_iok at hok
  have hP0 := hR.1
  cases i <;> dsimp only at h hok hdec hK ⊢
  case iconst n =>
    obtain ⟨rfl, hk⟩ := hok
    exact lv_iconst hx hb hdec hk (hK ad lv _ S H locs cells slots ls hR hl hwl (hwt.pushI) h)
  case bipush n =>
    obtain ⟨rfl, hk⟩ := hok
    exact lv_bipush hx hb hdec hk (hK ad lv _ S H locs cells slots ls hR hl hwl (hwt.pushI) h)
  case sipush n =>
    obtain ⟨rfl, hk⟩ := hok
    exact lv_sipush hx hb hdec hk (hK ad lv _ S H locs cells slots ls hR hl hwl (hwt.pushI) h)
  case lconst n =>
    obtain ⟨rfl, hk⟩ := hok
    exact lv_lconst hx hb hdec hk (hK ad lv _ S H locs cells slots ls hR hl hwl (hwt.pushL) h)
  case ldc2_w n =>
    obtain ⟨rfl, hk⟩ := hok
    exact lv_ldc2 hx hb hown (hwd _ hk) hdec (hK ad lv _ S H locs cells slots ls hR hl hwl (hwt.pushL) h)
  case iload n =>
    obtain ⟨rfl, rfl⟩ := hok
    obtain ⟨v, h1, h2⟩ := mj_gI_sp h
    exact lv_iload hx hb hdec (hl.2.2 _ _ h1) (hK ad lv _ S H locs cells slots ls hR hl hwl (hwt.pushI) h2)
  case iload_n n =>
    obtain ⟨rfl, rfl⟩ := hok
    obtain ⟨v, h1, h2⟩ := mj_gI_sp h
    exact lv_iload_n hx hb hdec rfl (hl.2.2 _ _ h1) (hK ad lv _ S H locs cells slots ls hR hl hwl (hwt.pushI) h2)
  case lload n =>
    obtain ⟨rfl, rfl⟩ := hok
    obtain ⟨v, h1, h2⟩ := mj_gL_sp h
    exact lv_lload hx hb hdec (hl.2.2 _ _ h1) (hK ad lv _ S H locs cells slots ls hR hl hwl (hwt.pushL) h2)
  case lload_n n =>
    obtain ⟨rfl, rfl⟩ := hok
    obtain ⟨v, h1, h2⟩ := mj_gL_sp h
    exact lv_lload_n hx hb hdec rfl (hl.2.2 _ _ h1) (hK ad lv _ S H locs cells slots ls hR hl hwl (hwt.pushL) h2)
  case aload n =>
    obtain ⟨rfl, rfl⟩ := hok
    rcases mj_gA_sp h with ⟨v, h1, h2⟩ | ⟨h1, h2⟩
    · exact lv_aload hx hb hdec (hl.2.2 _ _ h1) (hK ad lv _ S H locs cells slots ls hR hl hwl (hwt.push (hwl _ _ h1)) h2)
    · exact lv_aloadN hx hb hdec (hl.2.2 _ _ h1) (hK ad lv _ S H locs cells slots ls hR hl hwl (hwt.pushN) h2)
  case aload_n n =>
    obtain ⟨rfl, rfl⟩ := hok
    rcases mj_gA_sp h with ⟨v, h1, h2⟩ | ⟨h1, h2⟩
    · exact lv_aload_n hx hb hdec rfl (hl.2.2 _ _ h1) (hK ad lv _ S H locs cells slots ls hR hl hwl (hwt.push (hwl _ _ h1)) h2)
    · exact lv_aload_nN hx hb hdec rfl (hl.2.2 _ _ h1) (hK ad lv _ S H locs cells slots ls hR hl hwl (hwt.pushN) h2)
  case istore n =>
    obtain ⟨⟨rfl, rfl⟩, hn⟩ := hok
    obtain ⟨v, r, rfl, h2⟩ := mj_pI_sp h
    exact lv_istore hx hb hdec hl.has hn rfl (fun ls' hl' => hK ad _ r S H locs cells slots ls' hR (mj_lr.store1 (v := .int v) hl') (hwl.store trivial) hwt.tail h2)
  case istore_n n =>
    obtain ⟨⟨rfl, rfl⟩, hn⟩ := hok
    obtain ⟨v, r, rfl, h2⟩ := mj_pI_sp h
    exact lv_istore_n hx hb hdec rfl hl.has hn rfl (fun ls' hl' => hK ad _ r S H locs cells slots ls' hR (mj_lr.store1 (v := .int v) hl') (hwl.store trivial) hwt.tail h2)
  case lstore n =>
    obtain ⟨⟨rfl, rfl⟩, hn⟩ := hok
    obtain ⟨v, r, rfl, h2⟩ := mj_pL_sp h
    exact lv_lstore hx hb hdec hl.has hn rfl (fun ls' hl' => hK ad _ r S H locs cells slots ls' hR (mj_lr.store2 (v := v) hl') hwl.store2 hwt.tail h2)
  case lstore_n n =>
    obtain ⟨⟨rfl, rfl⟩, hn⟩ := hok
    obtain ⟨v, r, rfl, h2⟩ := mj_pL_sp h
    exact lv_lstore_n hx hb hdec rfl hl.has hn rfl (fun ls' hl' => hK ad _ r S H locs cells slots ls' hR (mj_lr.store2 (v := v) hl') hwl.store2 hwt.tail h2)
  case astore n =>
    obtain ⟨⟨rfl, rfl⟩, hn⟩ := hok
    obtain ⟨v, r, rfl, h2⟩ := mj_pR_sp h
    exact lv_astore hx hb hdec hl.has hn rfl (fun ls' hl' => hK ad _ r S H locs cells slots ls' hR (mj_lr.store1 (v := .ref v) hl') (hwl.store hwt.head) hwt.tail h2)
  case astore_n n =>
    obtain ⟨⟨rfl, rfl⟩, hn⟩ := hok
    obtain ⟨v, r, rfl, h2⟩ := mj_pR_sp h
    exact lv_astore_n hx hb hdec rfl hl.has hn rfl (fun ls' hl' => hK ad _ r S H locs cells slots ls' hR (mj_lr.store1 (v := .ref v) hl') (hwl.store hwt.head) hwt.tail h2)
  case iinc n z =>
    obtain ⟨⟨rfl, rfl, hk⟩, hn⟩ := hok
    obtain ⟨v, h1, h2⟩ := mj_gI_sp h
    obtain ⟨j, hj⟩ := List.getElem?_of_mem (mj_ps_mem (ad := ad) (q := (a, .int v)) |>.mpr ⟨_, h1, rfl⟩)
    exact lv_iinc (v := v + k) hx hb hdec hl.has hj (by rw [hk]) hn rfl (fun ls' hl' => hK ad _ st S H locs cells slots ls' hR (mj_lr.store1 (v := .int (v + k)) hl') (hwl.store trivial) hwt h2)
  case iadd =>
    subst hok
    obtain ⟨y, r, rfl, h1⟩ := mj_pI_sp h
    obtain ⟨z, r, rfl, h2⟩ := mj_pI_sp h1
    exact lv_iadd hx hb hdec (hK ad lv _ S H locs cells slots ls hR hl hwl hwt.tail.tail.pushI h2)
  case isub =>
    subst hok
    obtain ⟨y, r, rfl, h1⟩ := mj_pI_sp h
    obtain ⟨z, r, rfl, h2⟩ := mj_pI_sp h1
    exact lv_isub hx hb hdec (hK ad lv _ S H locs cells slots ls hR hl hwl hwt.tail.tail.pushI h2)
  case imul =>
    subst hok
    obtain ⟨y, r, rfl, h1⟩ := mj_pI_sp h
    obtain ⟨z, r, rfl, h2⟩ := mj_pI_sp h1
    exact lv_imul hx hb hdec (hK ad lv _ S H locs cells slots ls hR hl hwl hwt.tail.tail.pushI h2)
  case iand =>
    subst hok
    obtain ⟨y, r, rfl, h1⟩ := mj_pI_sp h
    obtain ⟨z, r, rfl, h2⟩ := mj_pI_sp h1
    exact lv_iand hx hb hdec (hK ad lv _ S H locs cells slots ls hR hl hwl hwt.tail.tail.pushI h2)
  case ior =>
    subst hok
    obtain ⟨y, r, rfl, h1⟩ := mj_pI_sp h
    obtain ⟨z, r, rfl, h2⟩ := mj_pI_sp h1
    exact lv_ior hx hb hdec (hK ad lv _ S H locs cells slots ls hR hl hwl hwt.tail.tail.pushI h2)
  case ixor =>
    subst hok
    obtain ⟨y, r, rfl, h1⟩ := mj_pI_sp h
    obtain ⟨z, r, rfl, h2⟩ := mj_pI_sp h1
    exact lv_ixor hx hb hdec (hK ad lv _ S H locs cells slots ls hR hl hwl hwt.tail.tail.pushI h2)
  case ishl =>
    subst hok
    obtain ⟨y, r, rfl, h1⟩ := mj_pI_sp h
    obtain ⟨z, r, rfl, h2⟩ := mj_pI_sp h1
    exact lv_ishl hx hb hdec (hK ad lv _ S H locs cells slots ls hR hl hwl hwt.tail.tail.pushI h2)
  case ishr =>
    subst hok
    obtain ⟨y, r, rfl, h1⟩ := mj_pI_sp h
    obtain ⟨z, r, rfl, h2⟩ := mj_pI_sp h1
    exact lv_ishr hx hb hdec (hK ad lv _ S H locs cells slots ls hR hl hwl hwt.tail.tail.pushI h2)
  case ladd =>
    subst hok
    obtain ⟨y, r, rfl, h1⟩ := mj_pL_sp h
    obtain ⟨z, r, rfl, h2⟩ := mj_pL_sp h1
    exact lv_ladd hx hb hdec (hK ad lv _ S H locs cells slots ls hR hl hwl hwt.tail.tail.pushL h2)
  case lsub =>
    subst hok
    obtain ⟨y, r, rfl, h1⟩ := mj_pL_sp h
    obtain ⟨z, r, rfl, h2⟩ := mj_pL_sp h1
    exact lv_lsub hx hb hdec (hK ad lv _ S H locs cells slots ls hR hl hwl hwt.tail.tail.pushL h2)
  case lmul =>
    subst hok
    obtain ⟨y, r, rfl, h1⟩ := mj_pL_sp h
    obtain ⟨z, r, rfl, h2⟩ := mj_pL_sp h1
    exact lv_lmul hx hb hdec (hK ad lv _ S H locs cells slots ls hR hl hwl hwt.tail.tail.pushL h2)
  case land =>
    subst hok
    obtain ⟨y, r, rfl, h1⟩ := mj_pL_sp h
    obtain ⟨z, r, rfl, h2⟩ := mj_pL_sp h1
    exact lv_land hx hb hdec (hK ad lv _ S H locs cells slots ls hR hl hwl hwt.tail.tail.pushL h2)
  case lor =>
    subst hok
    obtain ⟨y, r, rfl, h1⟩ := mj_pL_sp h
    obtain ⟨z, r, rfl, h2⟩ := mj_pL_sp h1
    exact lv_lor hx hb hdec (hK ad lv _ S H locs cells slots ls hR hl hwl hwt.tail.tail.pushL h2)
  case lushr =>
    subst hok
    obtain ⟨y, r, rfl, h1⟩ := mj_pI_sp h
    obtain ⟨z, r, rfl, h2⟩ := mj_pL_sp h1
    exact lv_lushr hx hb hdec rfl (hK ad lv _ S H locs cells slots ls hR hl hwl hwt.tail.tail.pushL h2)
  case lshl =>
    subst hok
    obtain ⟨y, r, rfl, h1⟩ := mj_pI_sp h
    obtain ⟨z, r, rfl, h2⟩ := mj_pL_sp h1
    exact lv_lshl hx hb hdec rfl (hK ad lv _ S H locs cells slots ls hR hl hwl hwt.tail.tail.pushL h2)
  case lshr =>
    subst hok
    obtain ⟨y, r, rfl, h1⟩ := mj_pI_sp h
    obtain ⟨z, r, rfl, h2⟩ := mj_pL_sp h1
    exact lv_lshr hx hb hdec rfl (hK ad lv _ S H locs cells slots ls hR hl hwl hwt.tail.tail.pushL h2)
  case idiv =>
    subst hok
    obtain ⟨y, r, rfl, h1⟩ := mj_pI_sp h
    obtain ⟨z, r, rfl, hne, h2⟩ := mj_pI_sp h1
    exact lv_idiv hx hb hdec hne (hK ad lv _ S H locs cells slots ls hR hl hwl hwt.tail.tail.pushI h2)
  case irem =>
    subst hok
    obtain ⟨y, r, rfl, h1⟩ := mj_pI_sp h
    obtain ⟨z, r, rfl, hne, h2⟩ := mj_pI_sp h1
    exact lv_irem hx hb hdec hne (hK ad lv _ S H locs cells slots ls hR hl hwl hwt.tail.tail.pushI h2)
  case ldiv =>
    subst hok
    obtain ⟨y, r, rfl, h1⟩ := mj_pL_sp h
    obtain ⟨z, r, rfl, hne, h2⟩ := mj_pL_sp h1
    exact lv_ldiv hx hb hdec hne (hK ad lv _ S H locs cells slots ls hR hl hwl hwt.tail.tail.pushL h2)
  case lrem =>
    subst hok
    obtain ⟨y, r, rfl, h1⟩ := mj_pL_sp h
    obtain ⟨z, r, rfl, hne, h2⟩ := mj_pL_sp h1
    exact lv_lrem hx hb hdec hne (hK ad lv _ S H locs cells slots ls hR hl hwl hwt.tail.tail.pushL h2)
  case ineg =>
    subst hok
    obtain ⟨y, r, rfl, h1⟩ := mj_pI_sp h
    exact lv_ineg hx hb hdec (hK ad lv _ S H locs cells slots ls hR hl hwl hwt.tail.pushI h1)
  case lneg =>
    subst hok
    obtain ⟨y, r, rfl, h1⟩ := mj_pL_sp h
    exact lv_lneg hx hb hdec (hK ad lv _ S H locs cells slots ls hR hl hwl hwt.tail.pushL h1)
  case i2c =>
    subst hok
    obtain ⟨y, r, rfl, h1⟩ := mj_pI_sp h
    exact lv_i2c hx hb hdec rfl (hK ad lv _ S H locs cells slots ls hR hl hwl hwt.tail.pushI h1)
  case i2b =>
    subst hok
    obtain ⟨y, r, rfl, h1⟩ := mj_pI_sp h
    exact lv_i2b hx hb hdec rfl (hK ad lv _ S H locs cells slots ls hR hl hwl hwt.tail.pushI h1)
  case i2l =>
    subst hok
    obtain ⟨y, r, rfl, h1⟩ := mj_pI_sp h
    exact lv_i2l hx hb hdec rfl (hK ad lv _ S H locs cells slots ls hR hl hwl hwt.tail.pushL h1)
  case l2i =>
    subst hok
    obtain ⟨y, r, rfl, h1⟩ := mj_pL_sp h
    exact lv_l2i hx hb hdec rfl (hK ad lv _ S H locs cells slots ls hR hl hwl hwt.tail.pushI h1)
  case lcmp =>
    subst hok
    obtain ⟨y, r, rfl, h1⟩ := mj_pL_sp h
    obtain ⟨z, r, rfl, h2⟩ := mj_pL_sp h1
    exact W.lcmp hx hb hdec (hK ad lv _ S H locs cells slots ls hR hl hwl hwt.tail.tail.pushI h2)
  case dup =>
    subst hok
    obtain ⟨v, r, rfl, hv, h1⟩ := mj_pV_sp h
    exact lv_dup hx hb hdec (by rw [mj_tr_cat]; exact hv) (hK ad lv _ S H locs cells slots ls hR hl hwl (hwt.push hwt.head) h1)
  case pop =>
    subst hok
    obtain ⟨v, r, rfl, hv, h1⟩ := mj_pV_sp h
    exact lv_pop hx hb hdec (by rw [mj_tr_cat]; exact hv) (hK ad lv _ S H locs cells slots ls hR hl hwl hwt.tail h1)
  case goto off =>
    obtain ⟨rfl, hk⟩ := hok
    exact lv_goto hx hb hdec hk (hN a ad lv st S H locs cells slots ls hR hl hwl hwt h)
  case ifCond cd off =>
    obtain ⟨rfl, hk⟩ := hok
    obtain ⟨y, r, rfl, h1⟩ := mj_pI_sp h
    have kt := fun q => hN a ad lv r S H locs cells slots ls hR hl hwl hwt.tail (h1.1 q)
    have kf := fun q => hK ad lv r S H locs cells slots ls hR hl hwl hwt.tail (h1.2 q)
    cases cd
    · exact lv_if_eq hx hb hdec hk kt kf
    · exact lv_if_ne hx hb hdec hk kt (fun q => kf (fun n => n q))
    · exact lv_if_lt hx hb hdec hk kt kf
    · exact lv_if_ge hx hb hdec hk kt kf
    · exact lv_if_gt hx hb hdec hk kt kf
    · exact lv_if_le hx hb hdec hk kt kf
  case if_icmp cd off =>
    obtain ⟨rfl, hk⟩ := hok
    obtain ⟨y, r, rfl, h1⟩ := mj_pI_sp h
    obtain ⟨z, r, rfl, h1⟩ := mj_pI_sp h1
    have kt := fun q => hN a ad lv r S H locs cells slots ls hR hl hwl hwt.tail.tail (h1.1 q)
    have kf := fun q => hK ad lv r S H locs cells slots ls hR hl hwl hwt.tail.tail (h1.2 q)
    cases cd
    · exact lv_icmp_eq hx hb hdec hk kt kf
    · exact lv_icmp_ne hx hb hdec hk kt (fun q => kf (fun n => n q))
    · exact lv_icmp_lt hx hb hdec hk kt kf
    · exact lv_icmp_ge hx hb hdec hk kt kf
    · exact lv_icmp_gt hx hb hdec hk kt kf
    · exact lv_icmp_le hx hb hdec hk kt kf
  all_goals sorry
end MJI
