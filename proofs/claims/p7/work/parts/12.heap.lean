/-! INSTRUCTIONS THAT READ OR WRITE THE HEAP -/
theorem mj_ent_arr {ft : Nat → Nat → Nat} {ka : Nat → ClassId} {ad : Nat → Nat} {S : mj_S} {o t n : Nat} (ht : t ≠ 1) : mj_ent ft ka ad S o (1000 + t, n) = .inl (ka t, n, .inl (S.2.1 o)) := by
  unfold mj_ent
  rw [if_neg (show ¬ (1000 + t) < 1000 by omega), if_neg (show ¬ (1000 + t = 1001) by omega), show 1000 + t - 1000 = t by omega]
theorem mj_ent_larr {ft : Nat → Nat → Nat} {ka : Nat → ClassId} {ad : Nat → Nat} {S : mj_S} {o n : Nat} : mj_ent ft ka ad S o (1001, n) = .inl (ka 1, n, .inr (.inl (S.2.2.1 o))) := by
  unfold mj_ent
  simp
theorem mj_ent_obj {ft : Nat → Nat → Nat} {ka : Nat → ClassId} {ad : Nat → Nat} {S : mj_S} {o k n : Nat} (hk : k < 1000) : mj_ent ft ka ad S o (k, n) = .inr (k, (List.range n).map fun j => mj_fv ad S o j (ft k j)) := by
  unfold mj_ent
  rw [if_pos hk]
/-- what the tables say of the classes -/
def mj_cok (Wd : Cond → Prop) (cl : List vw_C) (ft : Nat → Nat → Nat) : Prop := ∀ (k : Nat) (C : String) (T : u_T) (N : Nat), cl[k]? = some (C, T, N) →
  k < 1000 ∧ (∀ w ∈ u_ws C T N, Wd w) ∧ (∃ ty : Nat → FieldType, (∀ j, j < N → parseFieldDescriptor (T j).2.2.1 = some (ty j)) ∧ (∀ j, j < N → defaultValue (ty j) = if ft k j = 2 then .null else .int 0)) ∧ (∀ a, a < N → ∀ b, b < N → a ≠ b → (T a).2.1 ≠ (T b).2.1)
section MJHP
variable {p : Program} {l : Launch} {e : Env} {R : Room} {s : State} {m : MethodId} {args : Array Value} {below : List Frame} {meth : Method} {c : Code} {Z : State → Prop}
variable {D : va_G} {cl : List vw_C} {ft : Nat → Nat → Nat} {ka : Nat → ClassId} {B : Nat} {E : mj_S} {aE : Nat → Nat} {cc : ByteArray} {own : String} {Wd : Cond → Prop}
variable {ad : Nat → Nat} {S : mj_S} {H : Heap} {locs : List Loc} {cells slots : Nat} {ls : Array Slot} {pc : Nat} {r : List Value}
/-- behind a store to the cell o -/
theorem mj_Rh.set {S' : mj_S} {o : Nat} {kn : Nat × Nat} {H' : Heap} {locs' : List Loc} (hR : mj_Rh D cl ft ka B s E aE ad S H locs cells slots) (ho : S.1[o]? = some kn) (hs : S'.1 = S.1) (hb : ∀ b, b ≠ o → S'.2.1 b = S.2.1 b ∧ S'.2.2.1 b = S.2.2.1 b ∧ S'.2.2.2.1 b = S.2.2.2.1 b) (hr : ∀ j q, S'.2.2.2.1 o j = some q → mj_wr S.1.length q) (hc : S'.2.2.2.2 = S.2.2.2.2)
    (hP : va_P D cl ((mj_ws ft ka ad S).set o (ad o, mj_ent ft ka ad S' o kn)) H') (hD : va_D (fun q => B ≤ q) ((mj_ws ft ka ad S).set o (ad o, mj_ent ft ka ad S' o kn))) (hS : va_S (fun q => B ≤ q) s.heap H' locs') : mj_Rh D cl ft ka B s E aE ad S' H' locs' cells slots := by
  obtain ⟨-, -, -, h4, h5, h6, h7⟩ := hR
  have e := mj_ws_set (ft := ft) (ka := ka) (ad := ad) (S' := S') ho hs hb
  refine ⟨by rw [e]; exact hP, by rw [e]; exact hD, hS, ⟨by rw [hs, hc]; exact h4.1, fun a j q hq => ?_⟩, ⟨by rw [hs]; exact h5.1, h5.2⟩, by rw [hc]; exact h6, by rw [hc]; exact h7⟩
  rw [hs]
  by_cases ha : a = o
  · subst ha; exact hr j q hq
  · rw [(hb a ha).2.2] at hq; exact h4.2 a j q hq
theorem mj_h_ald (hx : p.tables.exec = Jvm.exec) (hb : c.code = cc) (hKt : va_K D cl (mj_tys ka) s) (hR : mj_Rh D cl ft ka B s E aE ad S H locs cells slots) {o n t : Nat} {k : Int32} (ho : S.1[o]? = some (1000 + t, n)) (hin : vp_in k n) {i : Instr} (hdec : decode cc pc = .ok (i, 1)) (hi : (t = 0 ∧ i = .iaload) ∨ (t = 2 ∧ i = .caload) ∨ (t = 3 ∧ i = .baload) ∨ (t = 4 ∧ i = .baload))
    (kk : W p l e R s m args below meth c H locs cells slots Z (F0 m (pc + 1) ls (.int (S.2.1 o k.toNatClampNeg) :: r))) : W p l e R s m args below meth c H locs cells slots Z (F0 m pc ls (.int k :: .ref (ad o) :: r)) := by
  have ha := mj_ws_at (ft := ft) (ka := ka) (ad := ad) ho
  rcases hi with ⟨rfl, rfl⟩ | ⟨rfl, rfl⟩ | ⟨rfl, rfl⟩ | ⟨rfl, rfl⟩ <;> rw [mj_ent_arr (by decide)] at ha
  · exact va_iald hx hb hKt hR.1 o 0 ha rfl hin hdec kk
  · exact va_cald hx hb hKt hR.1 o 2 ha rfl hin hdec kk
  · exact va_zald hx hb hKt hR.1 o 3 ha rfl hin hdec kk
  · exact va_bald hx hb hKt hR.1 o 4 ha rfl hin hdec kk
theorem mj_h_ast (hx : p.tables.exec = Jvm.exec) (hb : c.code = cc) (hKt : va_K D cl (mj_tys ka) s) (hR : mj_Rh D cl ft ka B s E aE ad S H locs cells slots) {o n t : Nat} {k v : Int32} {nar : Int32 → Int32} (ho : S.1[o]? = some (1000 + t, n)) (hin : vp_in k n) {i : Instr} (hdec : decode cc pc = .ok (i, 1)) (hi : (t = 0 ∧ i = .iastore ∧ nar = fun v => v) ∨ (t = 2 ∧ i = .castore ∧ nar = fun v => vp_nar .char v) ∨ (t = 3 ∧ i = .bastore ∧ nar = fun v => vp_nar .boolean v) ∨ (t = 4 ∧ i = .bastore ∧ nar = fun v => vp_nar .byte v))
    (kk : ∀ (H' : Heap) (locs' : List Loc), mj_Rh D cl ft ka B s E aE ad (S.1, mj_up S.2.1 o k.toNatClampNeg (nar v), S.2.2) H' locs' cells slots → W p l e R s m args below meth c H' locs' cells slots Z (F0 m (pc + 1) ls r)) : W p l e R s m args below meth c H locs cells slots Z (F0 m pc ls (.int v :: .int k :: .ref (ad o) :: r)) := by
  have ha := mj_ws_at (ft := ft) (ka := ka) (ad := ad) ho
  have fin : ∀ (H' : Heap) (locs' : List Loc), t ≠ 1 → va_P D cl ((mj_ws ft ka ad S).set o (ad o, .inl (ka t, n, .inl (upd (S.2.1 o) k.toNatClampNeg (nar v))))) H' → va_D (fun q => B ≤ q) ((mj_ws ft ka ad S).set o (ad o, .inl (ka t, n, .inl (upd (S.2.1 o) k.toNatClampNeg (nar v))))) → va_S (fun q => B ≤ q) s.heap H' locs' → mj_Rh D cl ft ka B s E aE ad (S.1, mj_up S.2.1 o k.toNatClampNeg (nar v), S.2.2) H' locs' cells slots := by
    intro H' locs' ht hP hD hS
    have e : mj_ent ft ka ad (S.1, mj_up S.2.1 o k.toNatClampNeg (nar v), S.2.2) o (1000 + t, n) = .inl (ka t, n, .inl (upd (S.2.1 o) k.toNatClampNeg (nar v))) := by
      rw [mj_ent_arr ht]; show Sum.inl (_, _, Sum.inl (mj_up S.2.1 o _ _ o)) = _; rw [mj_up_eq]
    refine hR.set ho rfl (fun b hb => ⟨mj_up_ne hb, rfl, rfl⟩) (fun j q hq => hR.2.2.2.1.2 o j q hq) rfl (by rw [e]; exact hP) (by rw [e]; exact hD) hS
  rcases hi with ⟨rfl, rfl, rfl⟩ | ⟨rfl, rfl, rfl⟩ | ⟨rfl, rfl, rfl⟩ | ⟨rfl, rfl, rfl⟩ <;> rw [mj_ent_arr (by decide)] at ha
  · exact va_iast hx hb hKt hR.1 hR.2.1 hR.2.2.1 o 0 ha rfl hin hdec (fun H' locs' h1 h2 h3 => kk H' locs' (fin H' locs' (by decide) h1 h2 h3))
  · exact va_cast hx hb hKt hR.1 hR.2.1 hR.2.2.1 o 2 ha rfl hin hdec (fun H' locs' h1 h2 h3 => kk H' locs' (fin H' locs' (by decide) h1 h2 h3))
  · exact va_zast hx hb hKt hR.1 hR.2.1 hR.2.2.1 o 3 ha rfl hin hdec (fun H' locs' h1 h2 h3 => kk H' locs' (fin H' locs' (by decide) h1 h2 h3))
  · exact va_bast hx hb hKt hR.1 hR.2.1 hR.2.2.1 o 4 ha rfl hin hdec (fun H' locs' h1 h2 h3 => kk H' locs' (fin H' locs' (by decide) h1 h2 h3))
theorem mj_h_lald (hx : p.tables.exec = Jvm.exec) (hb : c.code = cc) (hKt : va_K D cl (mj_tys ka) s) (hR : mj_Rh D cl ft ka B s E aE ad S H locs cells slots) {o n : Nat} {k : Int32} (ho : S.1[o]? = some (1001, n)) (hin : vp_in k n) (hdec : decode cc pc = .ok (.laload, 1))
    (kk : W p l e R s m args below meth c H locs cells slots Z (F0 m (pc + 1) ls (.long (S.2.2.1 o k.toNatClampNeg) :: r))) : W p l e R s m args below meth c H locs cells slots Z (F0 m pc ls (.int k :: .ref (ad o) :: r)) := by
  have ha := mj_ws_at (ft := ft) (ka := ka) (ad := ad) ho
  rw [mj_ent_larr] at ha
  exact va_lald hx hb hKt hR.1 o 1 ha rfl hin hdec kk
theorem mj_h_last (hx : p.tables.exec = Jvm.exec) (hb : c.code = cc) (hKt : va_K D cl (mj_tys ka) s) (hR : mj_Rh D cl ft ka B s E aE ad S H locs cells slots) {o n : Nat} {k : Int32} {v : Int64} (ho : S.1[o]? = some (1001, n)) (hin : vp_in k n) (hdec : decode cc pc = .ok (.lastore, 1))
    (kk : ∀ (H' : Heap) (locs' : List Loc), mj_Rh D cl ft ka B s E aE ad (S.1, S.2.1, mj_up S.2.2.1 o k.toNatClampNeg v, S.2.2.2) H' locs' cells slots → W p l e R s m args below meth c H' locs' cells slots Z (F0 m (pc + 1) ls r)) : W p l e R s m args below meth c H locs cells slots Z (F0 m pc ls (.long v :: .int k :: .ref (ad o) :: r)) := by
  have ha := mj_ws_at (ft := ft) (ka := ka) (ad := ad) ho
  rw [mj_ent_larr] at ha
  refine va_last hx hb hKt hR.1 hR.2.1 hR.2.2.1 o 1 ha rfl hin hdec (fun H' locs' hP hD hS => kk H' locs' ?_)
  have e : mj_ent ft ka ad (S.1, S.2.1, mj_up S.2.2.1 o k.toNatClampNeg v, S.2.2.2) o (1001, n) = .inl (ka 1, n, .inr (.inl (vp_updL (S.2.2.1 o) k.toNatClampNeg v))) := by
    rw [mj_ent_larr]; show Sum.inl (_, _, Sum.inr (Sum.inl (mj_up S.2.2.1 o _ _ o))) = _; rw [mj_up_eqL]
  exact hR.set ho rfl (fun b hb => ⟨rfl, mj_up_ne hb, rfl⟩) (fun j q hq => hR.2.2.2.1.2 o j q hq) rfl (by rw [e]; exact hP) (by rw [e]; exact hD) hS
theorem mj_fs_at {o k n b : Nat} (hbn : b < n) : ((List.range n).map fun j => mj_fv ad S o j (ft k j))[b]? = some (mj_fv ad S o b (ft k b)) := by
  rw [List.getElem?_map, List.getElem?_range hbn]; rfl
theorem mj_h_get (hx : p.tables.exec = Jvm.exec) (hb : c.code = cc) (hown : s.vm.findClass own = some m.cls) (hKt : va_K D cl (mj_tys ka) s) (hwd : ∀ w, Wd w → w.before args s = true) (hco : mj_cok Wd cl ft) (hR : mj_Rh D cl ft ka B s E aE ad S H locs cells slots) {o k n b i N : Nat} {C : String} {T : u_T} (ho : S.1[o]? = some (k, n)) (hbn : b < n) (hc : cl[k]? = some (C, T, N)) (hbN : b < N) (hlink : Wd (.fieldLink own i (T b).1 (T b).2.1 (T b).2.2.1)) (hdec : decode cc pc = .ok (.getfield i, 3))
    (kk : W p l e R s m args below meth c H locs cells slots Z (F0 m (pc + 3) ls (mj_fv ad S o b (ft k b) :: r))) : W p l e R s m args below meth c H locs cells slots Z (F0 m pc ls (.ref (ad o) :: r)) := by
  have ha := mj_ws_at (ft := ft) (ka := ka) (ad := ad) ho
  obtain ⟨hk, hws, -, -⟩ := hco k C T N hc
  rw [mj_ent_obj hk] at ha
  exact va_get (D := D) (Ts := u_ws C T N) hx hb (fun w hw => hwd w (hws w hw)) (fun w hw => hw) hown hKt hR.1 o ha hc b hbN (hwd _ hlink) (fun _ h => h) (mj_fs_at hbn) hdec kk
theorem mj_fs_set {S' : mj_S} {o k n b : Nat} {v : Value} (hbn : b < n) (hv : mj_fv ad S' o b (ft k b) = v) (ho : ∀ j, j ≠ b → mj_fv ad S' o j (ft k j) = mj_fv ad S o j (ft k j)) : ((List.range n).map fun j => mj_fv ad S o j (ft k j)).set b v = (List.range n).map fun j => mj_fv ad S' o j (ft k j) := by
  apply List.ext_getElem?
  intro j
  by_cases hj : j = b
  · subst hj
    rw [List.getElem?_set_self (by simp; exact hbn), mj_fs_at (S := S') hbn, hv]
  · rw [List.getElem?_set_ne (Ne.symm hj)]
    by_cases hl : j < n
    · rw [mj_fs_at (S := S) hl, mj_fs_at (S := S') hl, ho j hj]
    · rw [List.getElem?_eq_none_iff.mpr (by simp; omega), List.getElem?_eq_none_iff.mpr (by simp; omega)]
theorem mj_h_put (hx : p.tables.exec = Jvm.exec) (hb : c.code = cc) (hown : s.vm.findClass own = some m.cls) (hKt : va_K D cl (mj_tys ka) s) (hwd : ∀ w, Wd w → w.before args s = true) (hco : mj_cok Wd cl ft) (hR : mj_Rh D cl ft ka B s E aE ad S H locs cells slots) {o k n b i N : Nat} {C : String} {T : u_T} {S' : mj_S} {v : Value} {ty : FieldType} (ho : S.1[o]? = some (k, n)) (hbn : b < n) (hc : cl[k]? = some (C, T, N)) (hbN : b < N) (hlink : Wd (.fieldLink own i (T b).1 (T b).2.1 (T b).2.2.1)) (hdec : decode cc pc = .ok (.putfield i, 3))
    (hfin : (T b).2.2.2 = false ∨ ((T b).2.2.2 = true ∧ meth.name = "<init>" ∧ (T b).1 = own)) (hty : parseFieldDescriptor (T b).2.2.1 = some ty) (hn : narrow ty v = v) (hf : fits ty v = true)
    (hs : S'.1 = S.1) (hot : ∀ b, b ≠ o → S'.2.1 b = S.2.1 b ∧ S'.2.2.1 b = S.2.2.1 b ∧ S'.2.2.2.1 b = S.2.2.2.1 b) (hr : ∀ j q, S'.2.2.2.1 o j = some q → mj_wr S.1.length q) (hcn : S'.2.2.2.2 = S.2.2.2.2) (hv : mj_fv ad S' o b (ft k b) = v) (hvo : ∀ j, j ≠ b → mj_fv ad S' o j (ft k j) = mj_fv ad S o j (ft k j))
    (kk : ∀ (H' : Heap) (locs' : List Loc), mj_Rh D cl ft ka B s E aE ad S' H' locs' cells slots → W p l e R s m args below meth c H' locs' cells slots Z (F0 m (pc + 3) ls r)) : W p l e R s m args below meth c H locs cells slots Z (F0 m pc ls (v :: .ref (ad o) :: r)) := by
  have ha := mj_ws_at (ft := ft) (ka := ka) (ad := ad) ho
  obtain ⟨hk, hws, ⟨tys, hty0, -⟩, hnm⟩ := hco k C T N hc
  rw [mj_ent_obj hk] at ha
  have fin : ∀ (H' : Heap) (locs' : List Loc), va_P D cl ((mj_ws ft ka ad S).set o (ad o, .inr (k, ((List.range n).map fun j => mj_fv ad S o j (ft k j)).set b v))) H' → va_D (fun q => B ≤ q) ((mj_ws ft ka ad S).set o (ad o, .inr (k, ((List.range n).map fun j => mj_fv ad S o j (ft k j)).set b v))) → va_S (fun q => B ≤ q) s.heap H' locs' → mj_Rh D cl ft ka B s E aE ad S' H' locs' cells slots := by
    intro H' locs' hP hD hS
    have e : mj_ent ft ka ad S' o (k, n) = .inr (k, ((List.range n).map fun j => mj_fv ad S o j (ft k j)).set b v) := by
      rw [mj_ent_obj hk, mj_fs_set (ft := ft) hbn hv hvo]
    exact hR.set ho hs hot hr hcn (by rw [e]; exact hP) (by rw [e]; exact hD) hS
  have hl : b < ((List.range n).map fun j => mj_fv ad S o j (ft k j)).length := by simp; exact hbn
  rcases hfin with hfin | ⟨hfin, hin, hdecl⟩
  · exact va_put (D := D) (Ts := u_ws C T N) hx hb (fun w hw => hwd w (hws w hw)) (fun w hw => hw) tys hty0 hnm hown hKt hR.1 hR.2.1 hR.2.2.1 o ha hc b hbN (hwd _ hlink) (fun _ h => h) hfin hty hn hf hl hdec (fun H' locs' h1 h2 h3 => kk H' locs' (fin H' locs' h1 h2 h3))
  · exact va_putF (D := D) (Ts := u_ws C T N) hx hb (fun w hw => hwd w (hws w hw)) (fun w hw => hw) tys hty0 hnm hown hKt hR.1 hR.2.1 hR.2.2.1 o ha hc b hbN (hwd _ hlink) (fun _ h => h) hfin hin hdecl hty hn hf hl hdec (fun H' locs' h1 h2 h3 => kk H' locs' (fin H' locs' h1 h2 h3))
/-- the store with a new cell, and its address -/
def mj_nS (S : mj_S) (k n : Nat) : mj_S := (S.1 ++ [(k, n)], mj_row S.2.1 S.1.length (fun _ => 0), mj_row S.2.2.1 S.1.length (fun _ => 0), mj_row S.2.2.2.1 S.1.length (fun _ => none), S.2.2.2.2.1 + 1, S.2.2.2.2.2 + n)
def mj_nA (S : mj_S) (ad : Nat → Nat) (q : Nat) : Nat → Nat := fun i => if i = S.1.length then q else ad i
theorem mj_nA_old (hw : mj_wS S) {q i : Nat} (hi : mj_wr S.1.length i) : mj_nA S ad q i = ad i := by
  have : i ≠ S.1.length := by rcases hi with h | h <;> have := hw.1.1 <;> omega
  simp only [mj_nA, if_neg this]
theorem mj_nA_new {q : Nat} : mj_nA S ad q S.1.length = q := by simp [mj_nA]
theorem mj_fv_new {k n q j t : Nat} : mj_fv (mj_nA S ad q) (mj_nS S k n) S.1.length j t = if t = 2 then .null else .int 0 := by
  unfold mj_fv mj_nS
  split
  · simp [mj_row]
  · rename_i ht
    rw [if_neg ht]
    simp [mj_row]
theorem mj_Rh.new {k n q : Nat} {H' : Heap} {en : va_E} (hR : mj_Rh D cl ft ka B s E aE ad S H locs cells slots) (hn : S.2.2.2.2.1 + 1 ≤ 601024 ∧ S.2.2.2.2.2 + n ≤ 7293034) (he : mj_ent ft ka (mj_nA S ad q) (mj_nS S k n) S.1.length (k, n) = en)
    (hP : va_P D cl (mj_ws ft ka ad S ++ [(q, en)]) H') (hD : va_D (fun q => B ≤ q) (mj_ws ft ka ad S ++ [(q, en)])) (hS : va_S (fun q => B ≤ q) s.heap H' locs) : mj_Rh D cl ft ka B s E aE (mj_nA S ad q) (mj_nS S k n) H' locs (cells + 1) (slots + n) := by
  obtain ⟨-, -, -, h4, h5, h6, h7⟩ := hR
  have e : mj_ws ft ka (mj_nA S ad q) (mj_nS S k n) = mj_ws ft ka ad S ++ [(q, mj_ent ft ka (mj_nA S ad q) (mj_nS S k n) S.1.length (k, n))] := (mj_ws_new (ft := ft) (ka := ka) (ad := ad) (k := k) (n := n) (q := q) h4 hn).1
  have w : mj_wS (mj_nS S k n) := (mj_ws_new (ft := ft) (ka := ka) (ad := ad) (k := k) (n := n) (q := q) h4 hn).2.1
  rw [he] at e
  refine ⟨by rw [e]; exact hP, by rw [e]; exact hD, hS, w, ⟨?_, fun i hi => ?_⟩, ?_, ?_⟩
  · have : (mj_nS S k n).1.length = S.1.length + 1 := by simp [mj_nS]
    have := h5.1
    omega
  · rw [mj_nA_old h4 (hi.up h5.1)]
    exact h5.2 i hi
  · show S.2.2.2.2.1 + 1 = _
    omega
  · show S.2.2.2.2.2 + n = _
    omega
theorem mj_h_new (hx : p.tables.exec = Jvm.exec) (hb : c.code = cc) (hown : s.vm.findClass own = some m.cls) (hKt : va_K D cl (mj_tys ka) s) (hwd : ∀ w, Wd w → w.before args s = true) (hco : mj_cok Wd cl ft) (hA : ∀ q, s.heap.size ≤ q → B ≤ q) (hR : mj_Rh D cl ft ka B s E aE ad S H locs cells slots) {k i N : Nat} {C : String} {T : u_T} (hc : cl[k]? = some (C, T, N)) (hl : Wd (.classLink own i C)) (hi : Wd (.instantiable C N)) (hini : Wd (.initialized C)) (hn : S.2.2.2.2.1 + 1 ≤ 601024 ∧ S.2.2.2.2.2 + N ≤ 7293034) (h1 : cells + 1 ≤ R.cells) (h2 : slots + N ≤ R.slots) (hdec : decode cc pc = .ok (.new i, 3))
    (kk : ∀ (q : Nat) (H' : Heap), mj_Rh D cl ft ka B s E aE (mj_nA S ad q) (mj_nS S k N) H' locs (cells + 1) (slots + N) → W p l e R s m args below meth c H' locs (cells + 1) (slots + N) Z (F0 m (pc + 3) ls (.ref q :: r))) : W p l e R s m args below meth c H locs cells slots Z (F0 m pc ls r) := by
  obtain ⟨hk, hws, ⟨tys, hty0, hdf⟩, hnm⟩ := hco k C T N hc
  refine va_new (D := D) (Ts := u_ws C T N) (ci := k) (fs := (List.range N).map fun j => if ft k j = 2 then .null else .int 0) hx hb (fun w hw => hwd w (hws w hw)) (fun w hw => hw) tys hty0 hown (hwd _ hl) (hwd _ hi) (hwd _ hini) hKt hR.1 hR.2.1 hR.2.2.1 (fun q h => hA q h) hc ?_ h1 h2 hdec (fun q H' hP hD hS => kk q H' (hR.new hn ?_ hP hD hS))
  · intro j hj
    rw [hdf j hj]
    unfold vp_V
    rw [List.getD_eq_getElem?_getD, List.getElem?_map, List.getElem?_range hj]
    rfl
  · rw [mj_ent_obj hk]
    simp only [mj_fv_new]
theorem mj_h_newa (hx : p.tables.exec = Jvm.exec) (hb : c.code = cc) (hKt : va_K D cl (mj_tys ka) s) (hwd : ∀ w, Wd w → w.before args s = true) (hA : ∀ q, s.heap.size ≤ q → B ≤ q) (hR : mj_Rh D cl ft ka B s E aE ad S H locs cells slots) {t : Nat} {n : Int32} {ty : ArrayType} (hty : (t = 0 ∧ ty = .int) ∨ (t = 1 ∧ ty = .long) ∨ (t = 2 ∧ ty = .char) ∨ (t = 3 ∧ ty = .boolean) ∨ (t = 4 ∧ ty = .byte)) (hw : Wd (.arrayClass (newarray.typeOf ty))) (hn0 : ¬ n < 0) (hcap : n.toNatClampNeg ≤ 8000000) (hn : S.2.2.2.2.1 + 1 ≤ 601024 ∧ S.2.2.2.2.2 + n.toNatClampNeg ≤ 7293034) (h1 : cells + 1 ≤ R.cells) (h2 : slots + n.toNatClampNeg ≤ R.slots) (hdec : decode cc pc = .ok (.newarray ty, 2))
    (kk : ∀ (q : Nat) (H' : Heap), mj_Rh D cl ft ka B s E aE (mj_nA S ad q) (mj_nS S (1000 + t) n.toNatClampNeg) H' locs (cells + 1) (slots + n.toNatClampNeg) → W p l e R s m args below meth c H' locs (cells + 1) (slots + n.toNatClampNeg) Z (F0 m (pc + 2) ls (.ref q :: r))) : W p l e R s m args below meth c H locs cells slots Z (F0 m pc ls (.int n :: r)) := by
  have hlast : ∀ {cA : ClassId} {ft' : FieldType}, va_K D cl (mj_tys ka ++ [(cA, ft')]) s → va_RA s cA ft' := fun h => (h.2 5 _ rfl).2
  rcases hty with ⟨rfl, rfl⟩ | ⟨rfl, rfl⟩ | ⟨rfl, rfl⟩ | ⟨rfl, rfl⟩ | ⟨rfl, rfl⟩
  · refine va_newa (a0 := (n.toNatClampNeg, .inl fun _ => 0)) hx hb (hwd _ hw) rfl hKt hR.1 hR.2.1 hR.2.2.1 (fun q h => hA q h) (fun cA => rfl) hn0 rfl (by show _ * 4 ≤ _; omega) h1 h2 hdec (fun q cA H' hK' hP hD hS => kk q H' (hR.new hn ?_ hP hD hS))
    rw [mj_ent_arr (by decide)]
    have e : ka 0 = cA := Option.some.inj (((hKt.2 0 _ rfl).2 : s.vm.findClass _ = some _).symm.trans (hlast hK' : s.vm.findClass _ = some _))
    rw [e]; show Sum.inl (cA, _, Sum.inl (mj_row S.2.1 S.1.length _ S.1.length)) = _; rw [mj_row_eq]
  · refine va_newa (a0 := (n.toNatClampNeg, .inr (.inl fun _ => 0))) hx hb (hwd _ hw) rfl hKt hR.1 hR.2.1 hR.2.2.1 (fun q h => hA q h) (fun cA => rfl) hn0 rfl (by show _ * 8 ≤ _; omega) h1 h2 hdec (fun q cA H' hK' hP hD hS => kk q H' (hR.new hn ?_ hP hD hS))
    rw [show (1000 + 1) = 1001 from rfl, mj_ent_larr]
    have e : ka 1 = cA := Option.some.inj (((hKt.2 1 _ rfl).2 : s.vm.findClass _ = some _).symm.trans (hlast hK' : s.vm.findClass _ = some _))
    rw [e]; show Sum.inl (cA, _, Sum.inr (Sum.inl (mj_row S.2.2.1 S.1.length _ S.1.length))) = _; rw [mj_row_eq]
  · refine va_newa (a0 := (n.toNatClampNeg, .inl fun _ => 0)) hx hb (hwd _ hw) rfl hKt hR.1 hR.2.1 hR.2.2.1 (fun q h => hA q h) (fun cA => rfl) hn0 rfl (by show _ * 2 ≤ _; omega) h1 h2 hdec (fun q cA H' hK' hP hD hS => kk q H' (hR.new hn ?_ hP hD hS))
    rw [mj_ent_arr (by decide)]
    have e : ka 2 = cA := Option.some.inj (((hKt.2 2 _ rfl).2 : s.vm.findClass _ = some _).symm.trans (hlast hK' : s.vm.findClass _ = some _))
    rw [e]; show Sum.inl (cA, _, Sum.inl (mj_row S.2.1 S.1.length _ S.1.length)) = _; rw [mj_row_eq]
  · refine va_newa (a0 := (n.toNatClampNeg, .inl fun _ => 0)) hx hb (hwd _ hw) rfl hKt hR.1 hR.2.1 hR.2.2.1 (fun q h => hA q h) (fun cA => rfl) hn0 rfl (by show _ * 1 ≤ _; omega) h1 h2 hdec (fun q cA H' hK' hP hD hS => kk q H' (hR.new hn ?_ hP hD hS))
    rw [mj_ent_arr (by decide)]
    have e : ka 3 = cA := Option.some.inj (((hKt.2 3 _ rfl).2 : s.vm.findClass _ = some _).symm.trans (hlast hK' : s.vm.findClass _ = some _))
    rw [e]; show Sum.inl (cA, _, Sum.inl (mj_row S.2.1 S.1.length _ S.1.length)) = _; rw [mj_row_eq]
  · refine va_newa (a0 := (n.toNatClampNeg, .inl fun _ => 0)) hx hb (hwd _ hw) rfl hKt hR.1 hR.2.1 hR.2.2.1 (fun q h => hA q h) (fun cA => rfl) hn0 rfl (by show _ * 1 ≤ _; omega) h1 h2 hdec (fun q cA H' hK' hP hD hS => kk q H' (hR.new hn ?_ hP hD hS))
    rw [mj_ent_arr (by decide)]
    have e : ka 4 = cA := Option.some.inj (((hKt.2 4 _ rfl).2 : s.vm.findClass _ = some _).symm.trans (hlast hK' : s.vm.findClass _ = some _))
    rw [e]; show Sum.inl (cA, _, Sum.inl (mj_row S.2.1 S.1.length _ S.1.length)) = _; rw [mj_row_eq]
end MJHP
