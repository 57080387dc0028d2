/-! A METHOD'S BODY, against the machine -/
section MJY
variable {p : Program} {l : Launch} {e : Env} {R : Room} {s : State} {m : MethodId} {args : Array Value} {below : List Frame} {meth : Method} {c : Code} {Z : State → Prop}
variable {D : va_G} {cl : List vw_C} {ft : Nat → Nat → Nat} {ka : Nat → ClassId} {B : Nat} {E : mj_S} {aE : Nat → Nat} {cc : ByteArray} {nL : Nat} {own : String} {Wd : Cond → Prop} {ini : Prop} {rt : Option FieldType} {X : mj_X} {hd : mj_H} {cls : mj_C}
/-- an end by a throw -/
def mj_Xok (s : State) (below : List Frame) (Z : State → Prop) (D : va_G) (cl : List vw_C) (ft : Nat → Nat → Nat) (ka : Nat → ClassId) (B : Nat) (E : mj_S) (aE : Nat → Nat) (Q : mj_Q) : Prop :=
  ∀ (ad : Nat → Nat) (k : Nat) (S : mj_S) (H : Heap) (locs : List Loc) (cells slots : Nat) (a : Addr) (ce : Cell) (t : State), mj_Rh D cl ft ka B s E aE ad S H locs cells slots → Q (.inr k) S → H[a]? = some ce → s.vm.findClass (mj_ex k) = some ce.cls → ce.vm.isStatics = false → t.heap = H → t.status = .running → Ended t below (.threw a) → s.WarmedH t.vm → (∃ L : List Loc, (∀ q ∈ L, B ≤ q.base) ∧ s.sameButNew ({ t with vm := s.vm } : State) L cells slots) → Z t
/-- an instruction is sound in this body, whatever comes behind it -/
def mj_Iok (p : Program) (l : Launch) (e : Env) (R : Room) (s : State) (m : MethodId) (args : Array Value) (below : List Frame) (meth : Method) (c : Code) (D : va_G) (cl : List vw_C) (ft : Nat → Nat → Nat) (ka : Nat → ClassId) (B : Nat) (E : mj_S) (aE : Nat → Nat) (nL : Nat) (X : mj_X) (hd : mj_H) (cls : mj_C) (x : mj_I) : Prop :=
  ∀ (nx : mj_N) (K : mj_K) (Q : mj_Q) (Z : State → Prop), (∀ pc, mj_Kok p l e R s m args below meth c Z D cl ft ka B E aE nL (fun lv st S => nx pc lv st S Q) pc) → mj_Kok p l e R s m args below meth c Z D cl ft ka B E aE nL K (x.1 + x.2.2.1) → mj_Qok s below Z D cl ft ka B E aE Q → mj_Xok s below Z D cl ft ka B E aE Q →
    mj_Kok p l e R s m args below meth c Z D cl ft ka B E aE nL (fun lv st S => mj_in X hd cls nx Q x K lv st S) x.1
/-- a block's instructions lie one behind the other -/
def mj_bok (Ok : mj_I → Prop) : Nat → List mj_I → Nat → Prop
  | pc, [], e => e = pc
  | pc, x :: is, e => x.1 = pc ∧ Ok x ∧ mj_bok Ok (pc + x.2.2.1) is e
theorem mj_rb_snd {nx : mj_N} {Q : mj_Q} (hN : ∀ pc, mj_Kok p l e R s m args below meth c Z D cl ft ka B E aE nL (fun lv st S => nx pc lv st S Q) pc) (hQ : mj_Qok s below Z D cl ft ka B E aE Q) (hX : mj_Xok s below Z D cl ft ka B E aE Q) :
    ∀ (is : List mj_I) (pc en : Nat), mj_bok (mj_Iok p l e R s m args below meth c D cl ft ka B E aE nL X hd cls) pc is en → mj_Kok p l e R s m args below meth c Z D cl ft ka B E aE nL (mj_rb X hd cls nx Q en is) pc
  | [], pc, en, h => by
    have h : en = pc := h
    subst h
    exact hN en
  | x :: is, pc, en, h => by
    obtain ⟨h1, h2, h3⟩ := h
    subst h1
    exact h2 nx (mj_rb X hd cls nx Q en is) Q Z hN (mj_rb_snd hN hQ hX is _ en h3) hQ hX
theorem mj_bk_mem : ∀ {T : List mj_B} {pc : Nat} {b : mj_B}, mj_bk T pc = some b → b ∈ T ∧ b.1 = pc
  | b' :: r, pc, b, h => by
    unfold mj_bk at h
    split at h
    · rename_i hb
      cases h
      exact ⟨List.mem_cons_self, hb⟩
    · obtain ⟨h1, h2⟩ := mj_bk_mem h
      exact ⟨List.mem_cons_of_mem _ h1, h2⟩
def mj_PN (p : Program) (l : Launch) (e : Env) (R : Room) (s : State) (m : MethodId) (args : Array Value) (below : List Frame) (meth : Method) (c : Code) (Z : State → Prop) (D : va_G) (cl : List vw_C) (ft : Nat → Nat → Nat) (ka : Nat → ClassId) (B : Nat) (E : mj_S) (aE : Nat → Nat) (nL : Nat) : mj_N := fun pc lv st S Q =>
  mj_Qok s below Z D cl ft ka B E aE Q → mj_Xok s below Z D cl ft ka B E aE Q → ∀ (ad : Nat → Nat) (H : Heap) (locs : List Loc) (cells slots : Nat) (ls : Array Slot), mj_Rh D cl ft ka B s E aE ad S H locs cells slots → mj_lr ad nL lv ls → mj_wL S.1.length lv → mj_wT S.1.length st → W p l e R s m args below meth c H locs cells slots Z (F0 m pc ls (st.map (mj_tr ad)))
theorem mj_rn_snd {T : List mj_B} (hT : ∀ b ∈ T, mj_bok (mj_Iok p l e R s m args below meth c D cl ft ka B E aE nL X hd cls) b.1 b.2.2.1 b.2.2.2) {Q : mj_Q} (hQ : mj_Qok s below Z D cl ft ka B E aE Q) (hX : mj_Xok s below Z D cl ft ka B E aE Q) (pc : Nat) :
    mj_Kok p l e R s m args below meth c Z D cl ft ka B E aE nL (fun lv st S => mj_rn X hd cls T pc lv st S Q) pc := by
  intro ad lv st S H locs cells slots ls hR hl hwl hwt h
  refine h (mj_PN p l e R s m args below meth c Z D cl ft ka B E aE nL) ?_ hQ hX ad H locs cells slots ls hR hl hwl hwt
  intro pc lv st S Q q hQ hX ad H locs cells slots ls hR hl hwl hwt
  unfold mj_at at q
  obtain ⟨b, hb, q2⟩ := mj_so_sp q
  obtain ⟨hb1, hb2⟩ := mj_bk_mem hb
  subst hb2
  exact mj_rb_snd (nx := mj_PN p l e R s m args below meth c Z D cl ft ka B E aE nL) (fun pc ad lv st S H locs cells slots ls hR hl hwl hwt k => k hQ hX ad H locs cells slots ls hR hl hwl hwt) hQ hX b.2.2.1 b.1 b.2.2.2 (hT b hb1) ad _ st S H locs cells slots ls hR (hl.less (mj_mk_get _ _)) (hwl.less (mj_mk_get _ _)) hwt q2
/-- the plain instructions -/
theorem mj_Iok_in (hx : p.tables.exec = Jvm.exec) (hb : c.code = cc) (hml : c.maxLocals = nL) (hown : s.vm.findClass own = some m.cls) (hlk : meth.locks = false) (hrt : meth.sig.returnType = rt) (hwd : ∀ w, Wd w → w.before args s = true) (hKt : va_K D cl (mj_tys ka) s) (hco : mj_cok Wd cl ft) (hG : mj_Gr R s meth B E aE X ini)
    {x : mj_I} (hdec : decode cc x.1 = .ok (x.2.1, x.2.2.1)) (hok : mj_iok Wd cl ft own nL ini rt x) (hls : ∀ i, x.2.1 = .ldc i → x.2.2.2.1.2.2 ≠ 0 → ∃ tx, vk_R own i tx (aE x.2.2.2.1.1) s)
    (hC : ∀ n, (x.2.1 = .invokestatic n ∨ x.2.1 = .invokevirtual n ∨ (x.2.1 = .invokespecial n ∧ x.2.2.2.1.2.2 = 0)) → mj_Iok p l e R s m args below meth c D cl ft ka B E aE nL X hd cls x)
    (hT : ∀ n, x.2.1 = .new n → x.2.2.2.1.2.2 ≠ 0 → mj_Iok p l e R s m args below meth c D cl ft ka B E aE nL X hd cls x) : mj_Iok p l e R s m args below meth c D cl ft ka B E aE nL X hd cls x := by
  intro nx K Q Z hN hK hQ hX ad lv st S H locs cells slots ls hR hl hwl hwt h
  exact mj_in_snd hx hb hml hown hlk hrt hwd hKt hco hG hdec hok hK hN hQ hls (fun n hn => hC n hn nx K Q Z hN hK hQ hX) (fun n hn ht => hT n hn ht nx K Q Z hN hK hQ hX) hR hl hwl hwt h
end MJY
