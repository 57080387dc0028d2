/-! THE CONTRACTS OF ALL METHODS, by depth -/
def mj_cokb (k : Nat) : Bool := match mj_cl[k]? with
  | some (_, T, N) => (List.range N).all (fun j => match parseFieldDescriptor (T j).2.2.1 with
    | some ty => decide (defaultValue ty = if mj_ft k j = 2 then .null else .int 0)
    | none => false) && (List.range N).all (fun a => (List.range N).all fun b => (a == b) || ((T a).2.1 != (T b).2.1))
  | none => false
theorem mj_cokA : ((List.range 11).all mj_cokb) = true := by decide +kernel
theorem mj_cokW : mj_cok mj_Wd mj_cl mj_ft := by
  intro k C T N h
  have hk : k < 11 := (List.getElem?_eq_some_iff.mp h).1
  have q := List.all_eq_true.mp mj_cokA k (List.mem_range.mpr hk)
  unfold mj_cokb at q
  rw [h] at q
  dsimp only at q
  rw [Bool.and_eq_true] at q
  refine ⟨by omega, (mj_cl_wd h).2.2, ⟨fun j => (parseFieldDescriptor (T j).2.2.1).getD .int, fun j hj => ?_, fun j hj => ?_⟩, fun a ha b hb hab => ?_⟩
  · have := List.all_eq_true.mp q.1 j (List.mem_range.mpr hj)
    split at this
    · rename_i ty hty
      show parseFieldDescriptor (T j).2.2.1 = some ((parseFieldDescriptor (T j).2.2.1).getD .int)
      rw [hty]
      rfl
    · cases this
  · have := List.all_eq_true.mp q.1 j (List.mem_range.mpr hj)
    split at this
    · rename_i ty hty
      show defaultValue ((parseFieldDescriptor (T j).2.2.1).getD .int) = _
      rw [hty]
      exact of_decide_eq_true this
    · cases this
  · have := List.all_eq_true.mp (List.all_eq_true.mp q.2 a (List.mem_range.mpr ha)) b (List.mem_range.mpr hb)
    simp only [Bool.or_eq_true, beq_iff_eq, bne_iff_ne] at this
    exact this.resolve_left hab
/-- only the last method is the law itself -/
theorem mj_lawA : ((List.range 196).all fun n => match mj_PD[n]? with
  | some y => decide (y.1 ≠ ⟨"MacroPressLaw", "law", "([I)Z"⟩)
  | none => false) = true := by decide +kernel
theorem mj_law196 {a : Nat} (ha : a ≠ 196) {y : mj_D} (h : mj_PD[a]? = some y) : y.1 ≠ ⟨"MacroPressLaw", "law", "([I)Z"⟩ := by
  have hl : a < 197 := (List.getElem?_eq_some_iff.mp h).1
  have := List.all_eq_true.mp mj_lawA a (List.mem_range.mpr (by omega))
  rw [h] at this
  exact of_decide_eq_true this
/-- the places of the four throws -/
def mj_thk (q : Nat × Nat × Nat × Nat × Nat × Nat × Nat) : Bool := match mj_PD[q.1]? with
  | some y => decide (decode y.2.1 q.2.1 = .ok (.new q.2.2.2.1, 3)) && decide (decode y.2.1 (q.2.1 + 3) = .ok (.dup, 1)) && decide (decode y.2.1 (q.2.1 + 4) = .ok (.ldc q.2.2.2.2.1, 2)) && decide (decode y.2.1 (q.2.1 + 6) = .ok (.invokespecial q.2.2.2.2.2.1, 3)) && decide (decode y.2.1 (q.2.1 + 9) = .ok (.athrow, 1)) && decide (y.2.2.2.2 = []) &&
    Bundle.fit (mj_ex q.2.2.2.2.2.2) && decide (Cond.classLink (mj_nm q.2.2.1) q.2.2.2.1 (mj_ex q.2.2.2.2.2.2) ∈ lw_tbl) && decide (Cond.instantiable (mj_ex q.2.2.2.2.2.2) 6 ∈ lw_tbl) && decide (Cond.initialized (mj_ex q.2.2.2.2.2.2) ∈ lw_tbl)
  | none => false
theorem mj_thkA : mj_thrs.all mj_thk = true := by decide +kernel
/-- what must hold at the start -/
def mj_Beg (l : Launch) (s0 : State) (A : Array Value) (D : va_G) (ka : Nat → ClassId) (a0 : Nat → Nat) (X : mj_X) : Prop :=
  l.flags = pinnedFlags ++ [noTraceFlag] ∧ (∀ w ∈ lw_tbl, w.before A s0 = true) ∧ va_K D mj_cl (mj_tys ka) s0 ∧ mj_Lit s0 a0 X ∧ (va_X (a0 900000) X.1.1 X.1.2 s0 s0.heap ∧ a0 900000 < s0.heap.size) ∧ va_Nw (.castable "[I" "java/lang/Cloneable") s0 ∧ (X.2.2.1 = 601024 ∧ X.2.2.2 = 7293034) ∧
  (∀ q ∈ mj_lits, ∃ tx, vk_R (mj_nm q.1) q.2.1 tx (a0 q.2.2) s0) ∧ (∀ q ∈ mj_thrs, mj_Thr A s0 (mj_nm q.2.2.1) q.2.2.2.2.2.1 (mj_ex q.2.2.2.2.2.2) ["java/lang/RuntimeException", "java/lang/Exception"] ∧ ∃ tx q0, vk_R (mj_nm q.2.2.1) q.2.2.2.2.1 tx q0 s0) ∧ (Cond.methodLinkNest "MacroPress" 11 ⟨"MacroPress$Progress", "<init>", "()V"⟩ "MacroPress").before A s0 = true
section MJA
variable {p : Program} {l : Launch} {e : Env} {R : Room} {s s0 : State} {m : MethodId} {args A : Array Value} {below : List Frame} {meth : Method} {c : Code}
variable {D : va_G} {ka : Nat → ClassId} {E : mj_S} {aE a0 : Nat → Nat} {ini : Prop} {X : mj_X} {hd : mj_H} {cls : mj_C} {o d M : Nat} {y : mj_D}
set_option maxHeartbeats 2000000 in
theorem mj_ins (hg : mj_Beg l s0 A D ka a0 X) (hB : mj_Cal p l R s s0 m args meth c D ka E aE a0 y.2.1 y.2.2.1 (y.1.name = "<init>") X hd cls o d) (hrt : meth.sig.returnType = y.2.2.2.1) (hbi : ∀ M as S Q, 900 ≤ M → cls M as S Q → mj_bi X M as S Q) (hM : mj_PD[M]? = some y) (hex : y.2.2.2.2 = [] → c.exceptionTable.toList = [])
    {x : mj_I} (h1 : mj_ck o y x = true) (h2 : mj_vx o M x = true) : mj_Iok p l e R s m args below meth c D mj_cl mj_ft ka s0.heap.size E aE y.2.2.1 X hd cls x := by
  obtain ⟨hfl, htb, hK0, hlit, -, hcst, hnum, hls, hthr, hnest⟩ := hg
  obtain ⟨hdec, hok⟩ := mj_ck_ok h1
  have hB' := hB
  obtain ⟨hx, hb, hml, hown, hlk, hwd, hself, hH, hG, hC, ha0, hcon, hf, hlo, hR1, hR2, hKt, hmh⟩ := hB
  have hts : ∀ w, mj_Wd2 w → w.before A s0 = true := fun w hw => mj_Wd2_at htb hw
  refine mj_Iok_in (Wd := mj_Wd) hx hb hml hown hlk hrt (fun w hw => hwd w (Or.inl hw)) hKt mj_cokW hG hdec hok ?_ ?_ ?_
  · intro i hi ht
    unfold mj_vx at h2
    rw [hi] at h2
    simp only [Bool.or_eq_true, beq_iff_eq] at h2
    have h3 := h2.resolve_left ht
    obtain ⟨tx, htx⟩ := hls _ (List.contains_iff_mem.mp h3)
    have h900 : 900000 ≤ x.2.2.2.1.1 := by
      unfold mj_iok at hok
      rw [hi] at hok
      rcases hok.2 with q | q
      · exact absurd q.1 ht
      · exact q.2
    refine ⟨tx, ?_⟩
    rw [ha0 _ h900]
    exact htx.warm hC.1
  · intro n hn
    obtain ⟨pc, i, len, ⟨a, b, t⟩, k, kl, sw⟩ := x
    dsimp only at hn hdec
    unfold mj_iok at hok
    unfold mj_vx at h2
    rcases hn with rfl | rfl | ⟨rfl, ht⟩
    · dsimp only at hok h2
      subst hok
      simp only [Bool.and_eq_true, Bool.or_eq_true, beq_iff_eq, bne_iff_ne, Nat.blt_eq] at h2
      obtain ⟨⟨h3, h4⟩, h5⟩ := h2
      rcases h5 with h5 | ⟨h5, h6⟩
      · exact mj_Iok_static hB' hdec rfl h3 h5 (fun y hy => mj_law196 h4 hy)
      · have w := mj_zc_wd mj_MLok _ (List.contains_iff_mem.mp h6)
        rcases h5 with (rfl | rfl) | rfl
        · exact mj_Iok_abs hB' hbi hdec w (mj_jw 21 rfl) (mj_jw 27 rfl) ⟨by decide +kernel, rfl⟩
        · exact mj_Iok_max hB' hbi hdec w (mj_jw 22 rfl) (mj_jw 27 rfl) ⟨by decide +kernel, rfl⟩
        · exact mj_Iok_copy hB' hbi hdec w (mj_jw 31 rfl) (mj_jw 23 rfl) (mj_jw 28 rfl)
    · dsimp only at hok h2
      subst hok
      simp only [Bool.and_eq_true, Bool.or_eq_true, beq_iff_eq, bne_iff_ne, Nat.blt_eq] at h2
      obtain ⟨⟨h3, h4⟩, h5⟩ := h2
      rcases h5 with h5 | ⟨h5, h6⟩
      · exact mj_Iok_virtual hB' hdec rfl h3 h5 (fun y hy => mj_law196 h4 hy)
      · have w := mj_zc_wd mj_MLok _ (List.contains_iff_mem.mp h6)
        have ht : t = 999 := by
          unfold mj_vk at h3
          dsimp only at h3
          simp only [Bool.and_eq_true, Bool.or_eq_true, beq_iff_eq, bne_iff_ne, Nat.blt_eq] at h3
          rcases h3 with h3 | h3
          · exact h3.1
          · exact absurd h3.1.1.2 (by omega)
        rcases h5 with (rfl | rfl) | rfl
        · exact mj_Iok_clone hB' hbi hts hcst hdec ht w
        · exact mj_Iok_len hB' hbi hts hlit hdec ht w
        · exact mj_Iok_chat hB' hbi hts hlit hdec ht w
    · dsimp only at hok h2 ht
      obtain ⟨rfl, -⟩ := hok
      subst ht
      simp only [Bool.and_eq_true, bne_iff_ne] at h2
      exact mj_Iok_special hB' (mj_keepN hC hnest) hdec rfl h2.1 (fun y hy => mj_law196 h2.2 hy)
  · intro n hn ht
    unfold mj_vx at h2
    rw [hn] at h2
    simp only [Bool.or_eq_true, beq_iff_eq] at h2
    obtain ⟨q, hq, h3⟩ := List.any_eq_true.mp (h2.resolve_left ht)
    simp only [Bool.and_eq_true, beq_iff_eq] at h3
    obtain ⟨⟨⟨⟨e1, e2⟩, e3⟩, e4⟩, e5⟩ := h3
    have h4 := List.all_eq_true.mp mj_thkA q hq
    obtain ⟨t1, tx, q0, t2⟩ := hthr q hq
    unfold mj_thk at h4
    rw [e1, hM] at h4
    simp only [Bool.and_eq_true, decide_eq_true_eq] at h4
    obtain ⟨⟨⟨⟨⟨⟨⟨⟨⟨k1, k2⟩, k3⟩, k4⟩, k5⟩, k6⟩, k7⟩, k8⟩, k9⟩, k10⟩ := h4
    rw [e2] at k1 k2 k3 k4 k5
    rw [e5] at k7 k8 k9 k10 t1
    rw [e3] at k8 t1 t2
    rw [e4] at k1 k8
    exact mj_Iok_throw (Wd := mj_Wd) (A := A) hx hb hml hown hlk (fun w hw => hwd w (Or.inl hw)) hG hfl hC rfl hn ht t1 k7 ⟨k8, rfl⟩ ⟨k9, rfl⟩ ⟨k10, rfl⟩ (t2.warm hC.1) k1 k2 k3 k4 k5 (hex k6)
end MJA
