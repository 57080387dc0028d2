/-! THE START, put together -/
theorem mj_aw0 : (Bundle.ownAtoms "MacroPress" 135 (mj_ex 502) ["java/lang/RuntimeException", "java/lang/Exception"]).all mj_aw = true := by decide +kernel
theorem mj_aw1 : (Bundle.ownAtoms "MacroPress" 151 (mj_ex 501) ["java/lang/RuntimeException", "java/lang/Exception"]).all mj_aw = true := by decide +kernel
theorem mj_aw2 : (Bundle.ownAtoms "MacroPress$Progress" 32 (mj_ex 500) ["java/lang/RuntimeException", "java/lang/Exception"]).all mj_aw = true := by decide +kernel
theorem mj_sw0 : Cond.stringRef "MacroPress" 133 "no such byte" ∈ lw_tbl := by decide +kernel
theorem mj_sw1 : Cond.stringRef "MacroPress" 142 "no such counter" ∈ lw_tbl := by decide +kernel
theorem mj_sw2 : Cond.stringRef "MacroPress" 149 "ticks are 0 .. 30000" ∈ lw_tbl := by decide +kernel
theorem mj_sw3 : Cond.stringRef "MacroPress$Progress" 30 "a fault ends the run" ∈ lw_tbl := by decide +kernel
theorem mj_sw4 : Cond.stringRef "MacroPress$Expander" 204 "ivxlcdm" ∈ lw_tbl := by decide +kernel
theorem mj_sw5 : Cond.stringRef "MacroPress$Names" 10 "expandafter noexpand csname string number romannumeral the if ifcat ifx ifnum ifodd iftrue iffalse ifcase else or fi relax par begingroup endgroup endcsname end def edef gdef xdef let chardef count catcode advance multiply divide global " ∈ lw_tbl := by decide +kernel
theorem mj_sw6 : Cond.stringRef "MacroPressModel" 137 "expandafter noexpand csname string number romannumeral the if ifcat ifx ifnum ifodd iftrue iffalse ifcase else or fi relax par begingroup endgroup endcsname def edef gdef xdef let chardef count catcode advance multiply divide global end " ∈ lw_tbl := by decide +kernel
theorem mj_bw0 : Cond.castable "[I" "java/lang/Cloneable" ∈ lw_tbl := by decide +kernel
theorem mj_bw1 : Cond.methodLinkNest "MacroPress" 11 ⟨"MacroPress$Progress", "<init>", "()V"⟩ "MacroPress" ∈ lw_tbl := by decide +kernel
theorem mj_bw2 : Cond.laysStatic "java/lang/String" "COMPACT_STRINGS" "Z" ∈ lw_tbl := by decide +kernel
theorem mj_bw3 : Cond.laysStatic "jdk/internal/util/Preconditions" "SIOOBE_FORMATTER" "Ljava/util/function/BiFunction;" ∈ lw_tbl := by decide +kernel
theorem mj_bw4 : Cond.initialized "java/lang/String" ∈ lw_tbl := by decide +kernel
theorem mj_bw5 : Cond.initialized "jdk/internal/util/Preconditions" ∈ lw_tbl := by decide +kernel
theorem mj_fw4 : mj_fc[4]? = some (.eq (.static "java/lang/String" "COMPACT_STRINGS" "Z") (.int 1)) := by decide +kernel
theorem mj_fw5 : mj_fc[5]? = some (.isRef (.static "jdk/internal/util/Preconditions" "SIOOBE_FORMATTER" "Ljava/util/function/BiFunction;")) := by decide +kernel
theorem mj_fx0 : mj_fc[356]? = some (.exactly (.string "MacroPress" 133) "java/lang/String") := by decide +kernel
theorem mj_fx1 : mj_fc[376]? = some (.exactly (.string "MacroPress" 142) "java/lang/String") := by decide +kernel
theorem mj_fx2 : mj_fc[291]? = some (.exactly (.string "MacroPress" 149) "java/lang/String") := by decide +kernel
theorem mj_fx3 : mj_fc[316]? = some (.exactly (.string "MacroPress$Progress" 30) "java/lang/String") := by decide +kernel
section MJBEG
variable {l : Launch} {s : State} {A : Array Value}
theorem mj_str_of (hts : ∀ w ∈ lw_tbl, w.before A s = true) (hfl : ∀ w ∈ mj_fc, w.before A s = true) {own tx : String} {k p : Nat} (h1 : mj_fc[p]? = some (.exactly (.string own k) "java/lang/String")) (h2 : Cond.stringRef own k tx ∈ lw_tbl) : ∃ (tx : String) (q0 : Nat), vk_R own k tx q0 s := by
  obtain ⟨a, c, cA, kA, q1, -⟩ := Cond.exactly_spec (args := A) (first := s) (o := none) (s := s) (idx := []) (t := .string own k) (cls := "java/lang/String") (hfl _ (List.mem_of_getElem? h1))
  exact ⟨tx, a, vk_R.of (hts _ h2) q1⟩
theorem mj_Str_of (hts : ∀ w ∈ lw_tbl, w.before A s = true) (hfl : ∀ w ∈ mj_fc, w.before A s = true) : mj_Str s := by
  refine ⟨va_Zof (hts _ mj_bw2) (hts _ mj_bw4) (va_eqt (hfl _ (List.mem_of_getElem? mj_fw4))) (fun a ha => Nat.not_le.mpr ha), ?_⟩
  obtain ⟨v, hv, hr⟩ := Cond.isRef_spec (args := A) (first := s) (o := none) (s := s) (idx := []) (hfl _ (List.mem_of_getElem? mj_fw5))
  refine ⟨v, ?_, va_Zof (hts _ mj_bw3) (hts _ mj_bw5) hv (fun a ha => Nat.not_le.mpr ha)⟩
  cases v with
  | null => exact Or.inl rfl
  | ref t => exact Or.inr ⟨t, rfl⟩
  | _ => cases hr
theorem mj_arr_of (hts : ∀ w ∈ lw_tbl, w.before A s = true) (t : ArrayType) (ht : t = .int ∨ t = .long ∨ t = .char ∨ t = .boolean ∨ t = .byte) : ∃ cA : ClassId, ArrOfT s cA (newarray.typeOf t) ∧ s.vm.findClass ("[" ++ (newarray.typeOf t).toString) = some cA := by
  obtain ⟨c, k, comp, h1, h2, h3⟩ := Cond.arrayClass_spec (args := A) (first := s) (o := none) (s := s) (idx := []) (hts _ (mj_AC t ht).1)
  exact ⟨c, fun n z => ⟨fun k h => (by cases h), k, h2, comp, h3⟩, h1⟩
theorem mj_K_of (hts : ∀ w ∈ lw_tbl, w.before A s = true) : ∃ (D : va_G) (ka : Nat → ClassId), va_K D mj_cl (mj_tys ka) s := by
  have hc : ∀ k : Nat, ∃ q : ClassId × (Nat → Nat), ∀ r, mj_cl[k]? = some r → u_Kn s r.1 r.2.1 r.2.2 q.1 q.2 := by
    intro k
    cases h : mj_cl[k]? with
    | none => exact ⟨(0, fun _ => 0), fun r hr => by cases hr⟩
    | some r =>
      obtain ⟨C, T, N⟩ := r
      obtain ⟨w1, w2, w3⟩ := mj_cl_wd h
      obtain ⟨cC, iS, hk⟩ := u_known (C := C) (T := T) (N := N) (n := N) hts (fun w hw => (w3 w hw).1) (hts _ w1.1)
      exact ⟨(cC, iS), fun r hr => by cases hr; exact hk⟩
  obtain ⟨f, hf⟩ := Classical.axiomOfChoice hc
  obtain ⟨c0, p0, q0⟩ := mj_arr_of hts .int (by simp)
  obtain ⟨c1, p1, q1⟩ := mj_arr_of hts .long (by simp)
  obtain ⟨c2, p2, q2⟩ := mj_arr_of hts .char (by simp)
  obtain ⟨c3, p3, q3⟩ := mj_arr_of hts .boolean (by simp)
  obtain ⟨c4, p4, q4⟩ := mj_arr_of hts .byte (by simp)
  refine ⟨(fun k => (f k).1, fun k => (f k).2), fun i => match i with
    | 0 => c0
    | 1 => c1
    | 2 => c2
    | 3 => c3
    | _ => c4, fun c q hq => hf c q hq, fun k q hk => ?_⟩
  match k, hk with
  | 0, hk => cases hk; exact ⟨p0, q0⟩
  | 1, hk => cases hk; exact ⟨p1, q1⟩
  | 2, hk => cases hk; exact ⟨p2, q2⟩
  | 3, hk => cases hk; exact ⟨p3, q3⟩
  | 4, hk => cases hk; exact ⟨p4, q4⟩
  | k + 5, hk => cases hk
theorem mj_beg {b L : Nat} {xs : Nat → Int32} (hfl0 : l.flags = pinnedFlags ++ [noTraceFlag]) (hts : ∀ w ∈ lw_tbl, w.before A s = true) (hgv : (Cond.and given_1 narrow_1).before A s = true) (hX : va_X b L xs s s.heap) (hb : b < s.heap.size) :
    ∃ (D : va_G) (ka : Nat → ClassId) (a0 : Nat → Nat), a0 900000 = b ∧ mj_Beg l s A D ka a0 ((L, xs), [mj_t1, mj_t2, mj_t3], 601024, 7293034) := by
  have hfl : ∀ w ∈ mj_fc, w.before A s = true := flat_of_before _ hgv
  obtain ⟨D, ka, hK⟩ := mj_K_of hts
  have tk : ∀ t ∈ [mj_t1, mj_t2, mj_t3], mj_tok t = true := fun t ht => List.all_eq_true.mp mj_toks t ht
  have k1 := mj_tok_ok (tk mj_t1 (by simp))
  have k2 := mj_tok_ok (tk mj_t2 (by simp))
  have k3 := mj_tok_ok (tk mj_t3 (by simp))
  obtain ⟨d1, e1, x1⟩ := mj_txt_of hfl mj_l1 k1.1
  obtain ⟨d2, e2, x2⟩ := mj_txt_of hfl mj_l2 k2.1
  obtain ⟨d3, e3, x3⟩ := mj_txt_of hfl mj_l3 k3.1
  have h0 : ∀ i : Nat, ∃ a : Nat, (i = 900000 → a = b) ∧ (i = 900001 → a = d1) ∧ (i = 900002 → a = d2) ∧ (i = 900003 → a = d3) := by
    intro i
    by_cases i0 : i = 900000
    · exact ⟨b, fun _ => rfl, fun h => absurd (i0.symm.trans h) (by decide), fun h => absurd (i0.symm.trans h) (by decide), fun h => absurd (i0.symm.trans h) (by decide)⟩
    by_cases i1 : i = 900001
    · exact ⟨d1, fun h => absurd h i0, fun _ => rfl, fun h => absurd (i1.symm.trans h) (by decide), fun h => absurd (i1.symm.trans h) (by decide)⟩
    by_cases i2 : i = 900002
    · exact ⟨d2, fun h => absurd h i0, fun h => absurd h i1, fun _ => rfl, fun h => absurd (i2.symm.trans h) (by decide)⟩
    exact ⟨d3, fun h => absurd h i0, fun h => absurd h i1, fun h => absurd h i2, fun _ => rfl⟩
  obtain ⟨a0, ha⟩ := Classical.axiomOfChoice h0
  have a00 : a0 900000 = b := (ha _).1 rfl
  have a01 : a0 900001 = d1 := (ha _).2.1 rfl
  have a02 : a0 900002 = d2 := (ha _).2.2.1 rfl
  have a03 : a0 900003 = d3 := (ha _).2.2.2 rfl
  refine ⟨D, ka, a0, a00, hfl0, hts, hK, ⟨mj_Str_of hts hfl, ?_⟩, ?_, va_Nw.of rfl (hts _ mj_bw0), ⟨rfl, rfl⟩, ?_, ?_, hts _ mj_bw1⟩
  · intro i tx h
    match i, h with
    | 0, h =>
      cases h
      exact ⟨by show mj_Txt s (a0 900001) mj_t1; rw [a01]; exact x1, k1⟩
    | 1, h =>
      cases h
      exact ⟨by show mj_Txt s (a0 900002) mj_t2; rw [a02]; exact x2, k2⟩
    | 2, h =>
      cases h
      exact ⟨by show mj_Txt s (a0 900003) mj_t3; rw [a03]; exact x3, k3⟩
    | i + 3, h => cases h
  · rw [a00]
    exact ⟨hX, hb⟩
  · intro q hq
    unfold mj_lits at hq
    simp only [List.mem_cons, List.not_mem_nil, or_false] at hq
    rcases hq with rfl | rfl | rfl
    · exact ⟨_, by show vk_R "MacroPress$Expander" 204 _ (a0 900001) s; rw [a01]; exact vk_R.of (hts _ mj_sw4) e1⟩
    · exact ⟨_, by show vk_R "MacroPress$Names" 10 _ (a0 900002) s; rw [a02]; exact vk_R.of (hts _ mj_sw5) e2⟩
    · exact ⟨_, by show vk_R "MacroPressModel" 137 _ (a0 900003) s; rw [a03]; exact vk_R.of (hts _ mj_sw6) e3⟩
  · intro q hq
    unfold mj_thrs at hq
    simp only [List.mem_cons, List.not_mem_nil, or_false] at hq
    rcases hq with rfl | rfl | rfl | rfl
    · exact ⟨fun w hw => mj_aw_ok hts hfl (List.all_eq_true.mp mj_aw0 w hw), mj_str_of hts hfl mj_fx0 mj_sw0⟩
    · exact ⟨fun w hw => mj_aw_ok hts hfl (List.all_eq_true.mp mj_aw0 w hw), mj_str_of hts hfl mj_fx1 mj_sw1⟩
    · exact ⟨fun w hw => mj_aw_ok hts hfl (List.all_eq_true.mp mj_aw1 w hw), mj_str_of hts hfl mj_fx2 mj_sw2⟩
    · exact ⟨fun w hw => mj_aw_ok hts hfl (List.all_eq_true.mp mj_aw2 w hw), mj_str_of hts hfl mj_fx3 mj_sw3⟩
end MJBEG
