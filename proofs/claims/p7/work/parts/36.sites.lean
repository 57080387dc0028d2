/-! METHODS AND CALL SITES -/
def mj_Wd2 (w : Cond) : Prop := mj_Wd w ∨ ∃ y b n r, w = .codeWith y b n r [] ∧ Cond.code y b n r ∈ lw_tbl
theorem mj_Wd2_good {w : Cond} (h : mj_Wd2 w) : goodWord w = true := by
  rcases h with h | ⟨y, b, n, r, rfl, -⟩
  · exact h.2
  · rfl
theorem mj_Wd2_at {A : Array Value} {s0 : State} (hts : ∀ w ∈ lw_tbl, w.before A s0 = true) {w : Cond} (h : mj_Wd2 w) : w.before A s0 = true := by
  rcases h with h | ⟨y, b, n, r, rfl, h⟩
  · exact hts _ h.1
  · have := hts _ h
    simp only [Cond.before, Cond.holds] at this ⊢
    rw [← Cond.code_iff_codeWith_nil]
    exact this
def mj_cdw (y : mj_D) : Cond := match y.2.2.2.2 with
  | [] => .code y.1 y.2.1 y.2.2.1 y.2.2.2.1
  | _ => mj_cw y
def mj_mhc (n : Nat) : Bool := match mj_PD[n]?, mj_MH[n]? with
  | some y, some h => decide (lw_tbl[h.1]? = some (mj_cdw y)) && mj_ch (.initialized y.1.cls) h.2.1 && (match h.2.2.1 with
    | 1 => mj_ch (.static y.1) h.2.2.2.1
    | _ => mj_ch (.instanceMethod y.1) h.2.2.2.1 && ((y.1.name == "<init>") || mj_ch (.selects y.1.cls y.1 y.1) h.2.2.2.2)) && Nat.ble y.2.2.1 21 && plainName y.1.cls && (y.1.cls != "java/lang/invoke/MethodHandle") && (y.1.cls != "java/lang/invoke/VarHandle")
  | _, _ => false
theorem mj_mhc_ok {n : Nat} {y : mj_D} (h : mj_mhc n = true) (hy : mj_PD[n]? = some y) : mj_Wd2 (mj_cw y) ∧ mj_Wd (.initialized y.1.cls) ∧ y.2.2.1 ≤ 21 ∧ plainName y.1.cls = true ∧ (y.1.cls ≠ "java/lang/invoke/MethodHandle" ∧ y.1.cls ≠ "java/lang/invoke/VarHandle") ∧
    ∃ q : Nat × Nat × Nat × Nat × Nat, mj_MH[n]? = some q ∧ ((q.2.2.1 = 1 ∧ mj_Wd (.static y.1)) ∨ (q.2.2.1 ≠ 1 ∧ mj_Wd (.instanceMethod y.1) ∧ (y.1.name = "<init>" ∨ mj_Wd (.selects y.1.cls y.1 y.1)))) := by
  unfold mj_mhc at h
  rw [hy] at h
  split at h
  · rename_i y' q hy' hq
    cases hy'
    simp only [Bool.and_eq_true, decide_eq_true_eq, bne_iff_ne] at h
    obtain ⟨⟨⟨⟨⟨⟨h1, h2⟩, h3⟩, h4⟩, h5⟩, h6⟩, h7⟩ := h
    refine ⟨?_, mj_ch_wd h2, Nat.le_of_ble_eq_true h4, h5, ⟨h6, h7⟩, q, hq, ?_⟩
    · have hm := List.mem_of_getElem? h1
      unfold mj_cdw at hm
      split at hm
      · rename_i he
        refine Or.inr ⟨_, _, _, _, ?_, hm⟩
        unfold mj_cw
        rw [he]
      · exact Or.inl ⟨hm, rfl⟩
    · split at h3
      · rename_i e
        exact Or.inl ⟨e, mj_ch_wd h3⟩
      · rename_i e
        simp only [Bool.and_eq_true, Bool.or_eq_true, beq_iff_eq] at h3
        exact Or.inr ⟨e, mj_ch_wd h3.1, h3.2.imp id mj_ch_wd⟩
  · cases h
def mj_pn (y : MethodName) : Option Nat := (parseMethodDescriptor y.desc).map fun d => d.parameters.length
theorem mj_pn_ok {y : MethodName} {n : Nat} (h : mj_pn y = some n) : ∀ sig, parseMethodDescriptor y.desc = some sig → n = sig.parameters.length := by
  intro sig hs
  unfold mj_pn at h
  rw [hs] at h
  exact (Option.some.inj h).symm
/-- a call site -/
def mj_vk (o : Nat) (x : mj_I) : Bool := match x.2.1 with
  | .invokestatic i => Nat.ble 900 x.2.2.2.1.1 || (mj_ML.contains (o, i, x.2.2.2.1.1) && (match mj_PD[x.2.2.2.1.1]?, mj_MH[x.2.2.2.1.1]? with
    | some y, some h => (h.2.2.1 == 1) && (mj_pn y.1 == some x.2.2.2.1.2.1)
    | _, _ => false))
  | .invokevirtual i => ((x.2.2.2.1.2.2 == 999) && Nat.ble 900 x.2.2.2.1.1) || ((x.2.2.2.1.2.2 != 999) && Nat.blt x.2.2.2.1.1 900 && mj_ML.contains (o, i, x.2.2.2.1.1) && (match mj_PD[x.2.2.2.1.1]?, mj_MH[x.2.2.2.1.1]? with
    | some y, some h => (h.2.2.1 != 1) && (y.1.name != "<init>") && (mj_pn y.1 == some (x.2.2.2.1.2.1 - 1)) && (x.2.2.2.1.2.1 != 0) && (match mj_cl[x.2.2.2.1.2.2]? with
      | some q => q.1 == y.1.cls
      | none => false)
    | _, _ => false))
  | .invokespecial i => (x.2.2.2.1.2.2 != 0) || (Nat.blt x.2.2.2.1.1 900 && (mj_ML.contains (o, i, x.2.2.2.1.1) || ((o == 0) && (i == 11) && (x.2.2.2.1.1 == 75))) && (match mj_PD[x.2.2.2.1.1]?, mj_MH[x.2.2.2.1.1]? with
    | some y, some h => (h.2.2.1 != 1) && (y.1.name == "<init>") && (mj_pn y.1 == some (x.2.2.2.1.2.1 - 1)) && (x.2.2.2.1.2.1 != 0) && decide (y.2.2.2.1 = none) && decide (y.2.2.2.2 = [])
    | _, _ => false))
  | _ => true
section MJSI
variable {p : Program} {l : Launch} {e : Env} {R : Room} {s s0 : State} {m : MethodId} {args : Array Value} {below : List Frame} {meth : Method} {c : Code}
variable {D : va_G} {ka : Nat → ClassId} {E : mj_S} {aE a0 : Nat → Nat} {cc : ByteArray} {nL : Nat} {ini : Prop} {X : mj_X} {hd : mj_H} {cls : mj_C} {o d : Nat}
/-- what a call needs of the body that it stands in -/
def mj_Cal (p : Program) (l : Launch) (R : Room) (s s0 : State) (m : MethodId) (args : Array Value) (meth : Method) (c : Code) (D : va_G) (ka : Nat → ClassId) (E : mj_S) (aE a0 : Nat → Nat) (cc : ByteArray) (nL : Nat) (ini : Prop) (X : mj_X) (hd : mj_H) (cls : mj_C) (o d : Nat) : Prop :=
  p.tables.exec = Jvm.exec ∧ c.code = cc ∧ c.maxLocals = nL ∧ s.vm.findClass (mj_nm o) = some m.cls ∧ meth.locks = false ∧ (∀ w, mj_Wd2 w → w.before args s = true) ∧ (∀ (k : Nat) (cN : ClassId), s.vm.findClass (mj_ex k) = some cN → s.vm.assignable cN cN = true) ∧ mj_Hok mj_Wd2 (mj_nm o) cc c nL hd ∧ mj_Gr R s meth s0.heap.size E aE X ini ∧ mj_Cst s0 s ∧ (∀ i, 900000 ≤ i → aE i = a0 i) ∧
  (∀ (M : Nat) (y : mj_D) (as : List Value) (S : mj_S) (Q : mj_Q), M < 900 → mj_PD[M]? = some y → cls M as S Q → mj_Con l s0 D mj_cl mj_ft ka a0 X d y as S Q) ∧ d + 9 ≤ R.frames ∧ 40 * d + 340 ≤ R.locals ∧ (R.cells = X.2.2.1 - E.2.2.2.2.1 ∧ R.slots = X.2.2.2 - E.2.2.2.2.2) ∧ (E.2.2.2.2.1 ≤ X.2.2.1 ∧ E.2.2.2.2.2 ≤ X.2.2.2) ∧ va_K D mj_cl (mj_tys ka) s ∧ (∀ (n : Nat) (y : mj_D), mj_PD[n]? = some y → mj_mhc n = true ∨ y.1 = ⟨"MacroPressLaw", "law", "([I)Z"⟩)
theorem mj_iv_sp {nx : mj_N} {Q : mj_Q} {pc a n : Nat} {K : mj_K} {lv : mj_LV} {st : List Value} {S : mj_S} (h : mj_iv hd cls nx Q pc a n K lv st S) : ∃ as r, mj_tk n [] st = some (as, r) ∧ mj_wg r ≤ 8 ∧ cls a as S (mj_ret hd nx pc K lv r Q) := by
  obtain ⟨z, h1, h2⟩ := mj_so_sp h
  obtain ⟨h3, h4⟩ := mj_tt_sp h2
  exact ⟨z.1, z.2, h1, Nat.le_of_ble_eq_true h3, h4⟩
theorem mj_ir_sp {nx : mj_N} {Q : mj_Q} {pc a n t : Nat} {K : mj_K} {lv : mj_LV} {st : List Value} {S : mj_S} (h : mj_ir hd cls nx Q pc a n t K lv st S) : ∃ as r, mj_tk n [] st = some (as, r) ∧ mj_wg r ≤ 8 ∧ (∃ o r' k, as = .ref o :: r' ∧ S.1[o]? = some (t, k)) ∧ cls a as S (mj_ret hd nx pc K lv r Q) := by
  obtain ⟨z, h1, h2⟩ := mj_so_sp h
  obtain ⟨h3, h4⟩ := mj_tt_sp h2
  obtain ⟨o, r', k, e1, e2, h5⟩ := mj_rc_sp h4
  exact ⟨z.1, z.2, h1, Nat.le_of_ble_eq_true h3, ⟨o, r', k, e1, e2⟩, h5⟩
theorem mj_Iok_static (hB : mj_Cal p l R s s0 m args meth c D ka E aE a0 cc nL ini X hd cls o d) {pc n len a b t : Nat} {k : Int32} {kl : Int64} {sw : List (Int32 × Nat)} (hdec : decode cc pc = .ok (.invokestatic n, len)) (h3 : len = 3) (hv : mj_vk o (pc, .invokestatic n, len, (a, b, t), k, kl, sw) = true) (ha : a < 900) (hnl : ∀ y, mj_PD[a]? = some y → y.1 ≠ ⟨"MacroPressLaw", "law", "([I)Z"⟩) :
    mj_Iok p l e R s m args below meth c D mj_cl mj_ft ka s0.heap.size E aE nL X hd cls (pc, .invokestatic n, len, (a, b, t), k, kl, sw) := by
  subst h3
  obtain ⟨hx, hb, hml, hown, hlk, hwd, hself, hH, hG, hC, ha0, hcon, hf, hlo, hR1, hR2, hKt, hmh⟩ := hB
  unfold mj_vk at hv
  dsimp only at hv
  rw [Bool.or_eq_true, Bool.and_eq_true] at hv
  rcases hv with hv | ⟨h1, h2⟩
  · exact absurd (Nat.le_of_ble_eq_true hv) (by omega)
  · split at h2
    · rename_i y q hy hq
      simp only [Bool.and_eq_true, beq_iff_eq] at h2
      rcases hmh a y hy with hm | hm
      · obtain ⟨w1, w2, w3, w4, w5, q', hq', w6⟩ := mj_mhc_ok hm hy
        cases hq.symm.trans hq'
        have w7 : mj_Wd (.static y.1) := by
          rcases w6 with w6 | w6
          · exact w6.2
          · exact absurd h2.1 w6.1
        have ml := mj_zc_wd mj_MLok _ (List.contains_iff_mem.mp h1)
        have hmn : mj_mn a = y.1 := by
          unfold mj_mn
          split <;> first | omega | (rw [hy])
        unfold mj_mlc at ml
        dsimp only at ml
        rw [hmn] at ml
        refine mj_Iok_call (d := d) (b := b) (y := y) (Rc := fun _ _ => True) (Wd := mj_Wd2) (a0 := a0) (ini := ini) hx hb hml hown hlk hwd hself hH hG hC ha0 (fun w hw => mj_Wd2_good hw) rfl hdec (fun nx Q K lv st S h => ?_) (fun as S Q h => hcon a y as S Q ha hy h) hf hlo w3 w1 (Or.inl w2) hR1 hR2 (fun T locs cells slots ls ad S as rest hR XT hl _ => ?_)
        · obtain ⟨as, r, e1, e2, e3⟩ := mj_iv_sp (show mj_iv hd cls nx Q pc a b K lv st S from h)
          exact ⟨as, r, e1, e2, trivial, e3⟩
        · exact mj_entS XT hx hown (hwd _ (Or.inl ml)) (hwd _ (Or.inl w7)) (hwd _ (Or.inl w2)) (hwd _ w1) w5 (g := F0 m pc ls ((as.map (mj_tr ad)).reverse ++ rest)) rfl (fun sig hs => by rw [List.length_map, hl]; exact mj_pn_ok h2.2 sig hs) rfl (by rw [hb]; exact hdec)
      · exact absurd hm (hnl y hy)
    · cases h2
end MJSI
