/-! INSTRUCTIONS, checked by a program -/
def mj_ck (o : Nat) (y : mj_D) (x : mj_I) : Bool :=
  decide (decode y.2.1 x.1 = .ok (x.2.1, x.2.2.1)) && match x.2.1 with
  | .iconst n => (x.2.2.1 == 1) && (Int32.ofInt n == x.2.2.2.2.1)
  | .bipush n => (x.2.2.1 == 2) && ((Int8.ofInt n).toInt32 == x.2.2.2.2.1)
  | .sipush n => (x.2.2.1 == 3) && ((Int16.ofInt n).toInt32 == x.2.2.2.2.1)
  | .ldc i => (x.2.2.1 == 2) && ((x.2.2.2.1.2.2 == 0 && mj_KI.contains (o, i, x.2.2.2.2.1)) || (x.2.2.2.1.2.2 == 1 && Nat.ble 900000 x.2.2.2.1.1))
  | .ldc_w i => (x.2.2.1 == 3) && mj_KI.contains (o, i, x.2.2.2.2.1)
  | .lconst n => (x.2.2.1 == 1) && (Int64.ofNat (n : Nat) == x.2.2.2.2.2.1)
  | .ldc2_w i => (x.2.2.1 == 3) && mj_KL.contains (o, i, x.2.2.2.2.2.1)
  | .iload i => (x.2.2.1 == 2) && (x.2.2.2.1.1 == i)
  | .iload_n i => (x.2.2.1 == 1) && (x.2.2.2.1.1 == (i : Nat))
  | .lload i => (x.2.2.1 == 2) && (x.2.2.2.1.1 == i)
  | .lload_n i => (x.2.2.1 == 1) && (x.2.2.2.1.1 == (i : Nat))
  | .aload i => (x.2.2.1 == 2) && (x.2.2.2.1.1 == i)
  | .aload_n i => (x.2.2.1 == 1) && (x.2.2.2.1.1 == (i : Nat))
  | .istore i => ((x.2.2.1 == 2) && (x.2.2.2.1.1 == i)) && Nat.blt i y.2.2.1
  | .istore_n i => ((x.2.2.1 == 1) && (x.2.2.2.1.1 == (i : Nat))) && Nat.blt (i : Nat) y.2.2.1
  | .lstore i => ((x.2.2.1 == 2) && (x.2.2.2.1.1 == i)) && Nat.blt (i + 1) y.2.2.1
  | .lstore_n i => ((x.2.2.1 == 1) && (x.2.2.2.1.1 == (i : Nat))) && Nat.blt ((i : Nat) + 1) y.2.2.1
  | .astore i => ((x.2.2.1 == 2) && (x.2.2.2.1.1 == i)) && Nat.blt i y.2.2.1
  | .astore_n i => ((x.2.2.1 == 1) && (x.2.2.2.1.1 == (i : Nat))) && Nat.blt (i : Nat) y.2.2.1
  | .iinc i n => ((x.2.2.1 == 3) && (x.2.2.2.1.1 == i) && (Int32.ofInt n == x.2.2.2.2.1)) && Nat.blt i y.2.2.1
  | .ifCond _ off => (x.2.2.1 == 3) && ((x.1 : Int) + off == (x.2.2.2.1.1 : Int))
  | .if_icmp _ off => (x.2.2.1 == 3) && ((x.1 : Int) + off == (x.2.2.2.1.1 : Int))
  | .goto off => (x.2.2.1 == 3) && ((x.1 : Int) + off == (x.2.2.2.1.1 : Int))
  | .tableswitch d lo hi offs => ((x.1 : Int) + d == (x.2.2.2.1.1 : Int)) && (offs.size == x.2.2.2.2.2.2.length) && (hi == lo + (offs.size : Int) - 1) && (List.range offs.size).all fun j => match offs[j]?, x.2.2.2.2.2.2[j]? with
    | some q, some (k, t) => (k.toInt == lo + (j : Int)) && ((x.1 : Int) + q == (t : Int))
    | _, _ => false
  | .lookupswitch d ps => ((x.1 : Int) + d == (x.2.2.2.1.1 : Int)) && ((ps.toList.zip (ps.toList.drop 1)).all (fun (a, next) => decide (a.1 < next.1))) && decide (ps.toList = x.2.2.2.2.2.2.map fun q => (q.1.toInt, (q.2 : Int) - (x.1 : Int)))
  | .getfield i => (x.2.2.1 == 3) && mj_FL.contains (o, i, x.2.2.2.1.1, x.2.2.2.1.2.1) && (match mj_cl[x.2.2.2.1.1]? with
    | some q => Nat.blt x.2.2.2.1.2.1 q.2.2
    | none => false) && ((x.2.2.2.1.2.2 == 0) == (mj_ft x.2.2.2.1.1 x.2.2.2.1.2.1 != 2))
  | .putfield i => (x.2.2.1 == 3) && mj_FL.contains (o, i, x.2.2.2.1.1, x.2.2.2.1.2.1) && (match mj_cl[x.2.2.2.1.1]? with
    | some q => Nat.blt x.2.2.2.1.2.1 q.2.2
    | none => false) && (!(mj_tb x.2.2.2.1.1 x.2.2.2.1.2.1).2.2.2 || ((y.1.name == "<init>") && ((mj_tb x.2.2.2.1.1 x.2.2.2.1.2.1).1 == mj_nm o))) && (match parseFieldDescriptor (mj_tb x.2.2.2.1.1 x.2.2.2.1.2.1).2.2.1 with
    | some .int => (x.2.2.2.1.2.2 == 0) && (mj_ft x.2.2.2.1.1 x.2.2.2.1.2.1 != 2)
    | some (.object _) => (x.2.2.2.1.2.2 == 2) && (mj_ft x.2.2.2.1.1 x.2.2.2.1.2.1 == 2)
    | some (.array _) => (x.2.2.2.1.2.2 == 2) && (mj_ft x.2.2.2.1.1 x.2.2.2.1.2.1 == 2)
    | some .boolean => (x.2.2.2.1.2.2 == 3) && (mj_ft x.2.2.2.1.1 x.2.2.2.1.2.1 != 2)
    | _ => false)
  | .new i => (x.2.2.1 == 3) && (x.2.2.2.1.2.2 != 0 || (mj_CL.contains (o, i, x.2.2.2.1.1) && (match mj_cl[x.2.2.2.1.1]? with
    | some q => (q.2.2 == x.2.2.2.1.2.1) && (q.1 == mj_nm x.2.2.2.1.1)
    | none => false)))
  | .newarray ty => (x.2.2.1 == 2) && decide ((x.2.2.2.1.2.2 = 0 ∧ ty = .int) ∨ (x.2.2.2.1.2.2 = 1 ∧ ty = .long) ∨ (x.2.2.2.1.2.2 = 2 ∧ ty = .char) ∨ (x.2.2.2.1.2.2 = 3 ∧ ty = .boolean) ∨ (x.2.2.2.1.2.2 = 4 ∧ ty = .byte))
  | .checkcast i => (x.2.2.1 == 3) && (o == 5) && (i == 43)
  | .invokestatic _ => x.2.2.1 == 3
  | .invokevirtual _ => x.2.2.1 == 3
  | .invokespecial i => (x.2.2.1 == 3) && (x.2.2.2.1.2.2 == 0 || mj_OI.contains (o, i))
  | .ireturn => (x.2.2.1 == 1) && ((x.2.2.2.1.2.2 == 0 && decide (y.2.2.2.1 = some .int)) || (x.2.2.2.1.2.2 != 0 && decide (y.2.2.2.1 = some .boolean)))
  | .return_ => (x.2.2.1 == 1) && decide (y.2.2.2.1 = none)
  | _ => x.2.2.1 == 1
def mj_bc (o : Nat) (y : mj_D) : Nat → List mj_I → Nat → Bool
  | pc, [], e => e == pc
  | pc, x :: is, e => (x.1 == pc) && mj_ck o y x && mj_bc o y (pc + x.2.2.1) is e
def mj_mc (o n : Nat) : Bool := match mj_P[n]?, mj_PD[n]? with
  | some mm, some y => (mm.1 == y.2.2.1) && (y.1.cls == mj_nm o) && mm.2.2.all fun b => mj_bc o y b.1 b.2.2.1 b.2.2.2
  | _, _ => false
theorem mj_CCok : mj_Wd (.classLink "MacroPress$Names" 43 "[I") := ⟨by decide +kernel, by decide +kernel⟩
def mj_chc (k : Nat) (q : Nat × Nat × List Nat) : Bool := match mj_cl[k]? with
  | some z => mj_ch (.instantiable z.1 z.2.2) q.1 && mj_ch (.initialized z.1) q.2.1 && mj_zc (u_lay z.1 z.2.1) (List.range z.2.2) q.2.2
  | none => false
theorem mj_CHok : ((List.range 11).all fun k => mj_chc k (mj_CH.getD k (0, 0, []))) = true := by decide +kernel
theorem mj_cl_wd {k : Nat} {C : String} {T : u_T} {N : Nat} (h : mj_cl[k]? = some (C, T, N)) : mj_Wd (.instantiable C N) ∧ mj_Wd (.initialized C) ∧ ∀ w ∈ u_ws C T N, mj_Wd w := by
  have hk : k < 11 := (List.getElem?_eq_some_iff.mp h).1
  have := List.all_eq_true.mp mj_CHok k (List.mem_range.mpr hk)
  unfold mj_chc at this
  rw [h] at this
  simp only [Bool.and_eq_true] at this
  refine ⟨mj_ch_wd this.1.1, mj_ch_wd this.1.2, fun w hw => ?_⟩
  unfold u_ws at hw
  obtain ⟨j, hj, rfl⟩ := List.mem_map.mp hw
  exact mj_zc_wd this.2 j hj
theorem mj_tb_eq {c j : Nat} {C : String} {T : u_T} {N : Nat} (h : mj_cl[c]? = some (C, T, N)) : mj_tb c j = T j := by unfold mj_tb; rw [h]
set_option maxHeartbeats 4000000 in
theorem mj_ck_ok {o : Nat} {y : mj_D} {x : mj_I} (h : mj_ck o y x = true) : decode y.2.1 x.1 = .ok (x.2.1, x.2.2.1) ∧ mj_iok mj_Wd mj_cl mj_ft (mj_nm o) y.2.2.1 (y.1.name = "<init>") y.2.2.2.1 x := by
  unfold mj_ck at h
  rw [Bool.and_eq_true, decide_eq_true_eq] at h
  refine ⟨h.1, ?_⟩
  replace h := h.2
  obtain ⟨pc, i, len, ⟨a, b, t⟩, k, kl, sw⟩ := x
  unfold mj_iok
  cases i <;> dsimp only at h ⊢
  all_goals try exact beq_iff_eq.mp h
  all_goals simp only [Bool.and_eq_true, Bool.or_eq_true, beq_iff_eq, decide_eq_true_eq, bne_iff_ne, Nat.blt_eq] at h
  all_goals try exact h
  all_goals try exact ⟨h.1.1, h.1.2, h.2⟩
  case ldc n =>
    refine ⟨h.1, ?_⟩
    rcases h.2 with q | q
    · exact Or.inl ⟨q.1, mj_zc_wd mj_KIok _ (List.contains_iff_mem.mp q.2)⟩
    · exact Or.inr ⟨by rw [q.1]; decide, Nat.le_of_ble_eq_true q.2⟩
  case ldc_w n => exact ⟨h.1, mj_zc_wd mj_KIok _ (List.contains_iff_mem.mp h.2)⟩
  case ldc2_w n => exact ⟨h.1, mj_zc_wd mj_KLok _ (List.contains_iff_mem.mp h.2)⟩
  case iinc n z => exact ⟨⟨h.1.1.1, h.1.1.2, h.1.2⟩, h.2⟩
  case tableswitch d lo hi offs =>
    refine ⟨h.1.1.1, h.1.1.2, h.1.2, fun j hj => ?_⟩
    have := List.all_eq_true.mp h.2 j (List.mem_range.mpr hj)
    split at this
    · rename_i q k t h1 h2
      simp only [Bool.and_eq_true, beq_iff_eq] at this
      exact ⟨q, k, t, h1, h2, this.1, this.2⟩
    · cases this
  case getfield n =>
    obtain ⟨⟨⟨h1, h2⟩, h3⟩, h4⟩ := h
    refine ⟨h1, ?_⟩
    split at h3
    · rename_i q hq
      obtain ⟨C, T, N⟩ := q
      have w := mj_zc_wd mj_FLok _ (List.contains_iff_mem.mp h2)
      unfold mj_flc at w
      dsimp only at w
      rw [mj_tb_eq hq] at w
      refine ⟨C, T, N, hq, by simpa using h3, w, ?_⟩
      by_cases ht : t = 0
      · exact Or.inl ⟨ht, by simpa [ht] using h4⟩
      · refine Or.inr ⟨ht, ?_⟩
        rw [beq_eq_false_iff_ne.mpr ht] at h4
        simpa using h4.symm
    · cases h3
  case putfield n =>
    obtain ⟨⟨⟨⟨h1, h2⟩, h3⟩, h4⟩, h5⟩ := h
    refine ⟨h1, ?_⟩
    split at h3
    · rename_i q hq
      obtain ⟨C, T, N⟩ := q
      have w := mj_zc_wd mj_FLok _ (List.contains_iff_mem.mp h2)
      unfold mj_flc at w
      dsimp only at w
      rw [mj_tb_eq hq] at w h4 h5
      have h4' : (T b).2.2.2 = false ∨ ((T b).2.2.2 = true ∧ y.1.name = "<init>" ∧ (T b).1 = mj_nm o) := by
        cases hf : (T b).2.2.2 with
        | false => exact Or.inl rfl
        | true =>
          rw [hf] at h4
          simp only [Bool.not_true, Bool.false_eq_true, false_or] at h4
          exact Or.inr ⟨rfl, h4.1, h4.2⟩
      split at h5
      · rename_i hp
        simp only [Bool.and_eq_true, beq_iff_eq, bne_iff_ne] at h5
        exact ⟨C, T, N, .int, hq, by simpa using h3, w, h4', hp, Or.inl ⟨h5.1, rfl, h5.2⟩⟩
      · rename_i nn hp
        simp only [Bool.and_eq_true, beq_iff_eq] at h5
        exact ⟨C, T, N, _, hq, by simpa using h3, w, h4', hp, Or.inr (Or.inl ⟨h5.1, Or.inl ⟨_, rfl⟩, h5.2⟩)⟩
      · rename_i nn hp
        simp only [Bool.and_eq_true, beq_iff_eq] at h5
        exact ⟨C, T, N, _, hq, by simpa using h3, w, h4', hp, Or.inr (Or.inl ⟨h5.1, Or.inr ⟨_, rfl⟩, h5.2⟩)⟩
      · rename_i hp
        simp only [Bool.and_eq_true, beq_iff_eq, bne_iff_ne] at h5
        exact ⟨C, T, N, .boolean, hq, by simpa using h3, w, h4', hp, Or.inr (Or.inr ⟨h5.1, rfl, h5.2⟩)⟩
      · cases h5
    · cases h3
  case new n =>
    refine ⟨h.1, ?_⟩
    by_cases ht : t = 0
    · rcases h.2 with q | ⟨q1, q2⟩
      · exact absurd ht q
      · split at q2
        · rename_i z hq
          obtain ⟨C, T, N⟩ := z
          simp only [Bool.and_eq_true, beq_iff_eq] at q2
          obtain ⟨rfl, e2⟩ := q2
          have w := mj_zc_wd mj_CLok _ (List.contains_iff_mem.mp q1)
          unfold mj_clc at w
          dsimp only at w
          rw [← e2] at w
          obtain ⟨w1, w2, -⟩ := mj_cl_wd hq
          exact Or.inr ⟨ht, C, T, hq, w, w1, w2⟩
        · cases q2
    · exact Or.inl ht
  case newarray ty => exact ⟨h.1, h.2, mj_AC ty (by rcases h.2 with q | q | q | q | q <;> simp [q.2])⟩
  case checkcast n =>
    obtain ⟨⟨h1, rfl⟩, rfl⟩ := h
    exact ⟨h1, mj_CCok⟩
  case invokespecial n =>
    refine ⟨h.1, ?_⟩
    by_cases ht : t = 0
    · exact Or.inl ht
    · rcases h.2 with q | q
      · exact absurd q ht
      · exact Or.inr ⟨ht, mj_zc_wd mj_OIok _ (List.contains_iff_mem.mp q), mj_OB1, mj_OB2⟩
