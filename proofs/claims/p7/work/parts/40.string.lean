/-! String.length AND String.charAt of a literal -/
theorem mj_JA {s0 s : State} {A A' : Array Value} {w : Cond} (hts : ∀ w, mj_Wd2 w → w.before A s0 = true) (hC : mj_Cst s0 s) (h : mj_Wd2 w) : w.before A' s = true := mj_keepG hC (mj_Wd2_good h) (hts w h)
def mj_dl : mj_D := (⟨"java/lang/String", "length", "()I"⟩, prog_21_method_54_code, 1, some .int, [])
def mj_dc : mj_D := (⟨"java/lang/String", "charAt", "(I)C"⟩, prog_21_method_56_code, 2, some .char, [])
def mj_do : mj_D := (⟨"java/lang/String", "coder", "()B"⟩, prog_21_method_152_code, 1, some .byte, [])
def mj_di : mj_D := (⟨"java/lang/String", "isLatin1", "()Z"⟩, prog_21_method_154_code, 1, some .boolean, [])
def mj_dk : mj_D := (⟨"java/lang/String", "checkIndex", "(II)V"⟩, prog_21_method_155_code, 2, none, [])
def mj_d1 : mj_D := (⟨"java/lang/StringLatin1", "charAt", "([BI)C"⟩, prog_22_method_2_code, 2, some .char, [])
def mj_dp : mj_D := (⟨"jdk/internal/util/Preconditions", "checkIndex", "(IILjava/util/function/BiFunction;)I"⟩, prog_26_method_11_code, 3, some .int, [])
/-- what is known of the literals at the start -/
def mj_Txt (s0 : State) (ad : Nat) (tx : List Int32) : Prop := ∃ v, va_O "java/lang/String" ad (fun q => s0.heap.size ≤ q) s0 s0.heap ∧ va_OF "java/lang/String" "coder" "B" (.int 0) ad (fun q => s0.heap.size ≤ q) s0 s0.heap ∧ va_OF "java/lang/String" "value" "[B" (.ref v) ad (fun q => s0.heap.size ≤ q) s0 s0.heap ∧ va_T .byte v tx.length (fun j => .int (tx.getD j 0)) (fun q => s0.heap.size ≤ q) s0 s0.heap
def mj_Str (s0 : State) : Prop := va_Z "java/lang/String" "COMPACT_STRINGS" "Z" (.int 1) (fun q => s0.heap.size ≤ q) s0 s0.heap ∧ ∃ f : Value, (f = .null ∨ ∃ t, f = .ref t) ∧ va_Z "jdk/internal/util/Preconditions" "SIOOBE_FORMATTER" "Ljava/util/function/BiFunction;" f (fun q => s0.heap.size ≤ q) s0 s0.heap
section MJST
variable {l : Launch} {s0 : State} {A : Array Value}
theorem mj_c_pre {i n : Int32} {f : Value} (hf : f = .null ∨ ∃ t, f = .ref t) (h1 : ¬ i < 0) (h2 : i < n) : mj_Pu l s0 mj_dp 0 0 [.int i, .int n, f] (some (.int i)) := by
  rcases hf with rfl | ⟨f, rfl⟩
  all_goals
    refine mj_pu_body (by decide +kernel) fun p e s m below meth c hx hb hml hown hlk hrt hC => ?_
    refine lv_iload_n (k := 0) (i := 0) hx hb (by decide +kernel) rfl rfl ?_
    refine lv_if_lt (off := 8) (tgt := 9) hx hb (by decide +kernel) (by decide) (fun q => absurd q h1) (fun _ => ?_)
    refine lv_iload_n (k := 0) (i := 0) hx hb (by decide +kernel) rfl rfl ?_
    refine lv_iload_n (k := 1) (i := 1) hx hb (by decide +kernel) rfl rfl ?_
    refine lv_icmp_lt (off := 10) (tgt := 16) hx hb (by decide +kernel) (by decide) (fun _ => ?_) (fun q => absurd h2 q)
    refine lv_iload_n (k := 0) (i := 0) hx hb (by decide +kernel) rfl rfl ?_
    exact mj_pu_ret hx hb hrt rfl hlk (by decide +kernel)
theorem mj_c_chk {i n : Int32} (hts : ∀ w, mj_Wd2 w → w.before A s0 = true) (hZ : mj_Str s0) (h1 : ¬ i < 0) (h2 : i < n) : mj_Pu l s0 mj_dk 1 22 [.int i, .int n] none := by
  refine mj_pu_body (by decide +kernel) fun p e s m below meth c hx hb hml hown hlk hrt hC => ?_
  obtain ⟨-, f, hf, hZf⟩ := hZ
  have hZs := (hZf.moved hC.1.alike).kept (fun a ha _ => hC.2.2 a ha)
  have J := fun (w : Cond) (h : mj_Wd2 w) => mj_JA (A' := ([.int i, .int n] : List Value).toArray) hts hC h
  refine lv_iload_n (k := 0) (i := 0) hx hb (by decide +kernel) rfl rfl ?_
  refine lv_iload_n (k := 1) (i := 1) hx hb (by decide +kernel) rfl rfl ?_
  refine va_gets (index := 1053) hx hb hZs va_S.rf hown (J _ (Or.inl (mj_jw 3 rfl))) (fun _ h => h) (by decide +kernel) ?_
  refine mj_pu_call (rest := []) (mj_c_pre (f := f) hf h1 h2) hb hml hC va_S.rf (ig := .invokestatic 1059) (by decide +kernel) (J _ (mj_jd 6 rfl)) (J _ (Or.inl (mj_jw 26 rfl))) (by decide) (by decide) (by decide) (Nat.le_refl 0) (Nat.le_refl 0) (fun T hT XT => ?_) ?_
  · exact mj_entS XT hx hown (J _ (Or.inl (mj_jw 8 rfl))) (J _ (Or.inl (mj_jw 20 rfl))) (J _ (Or.inl (mj_jw 26 rfl))) (J _ (mj_jd 6 rfl)) ⟨by decide, by decide⟩ (argsL := [.int i, .int n, f]) rfl (fun sig hs => mj_pn_ok (y := mj_dp.1) (n := 3) (by decide +kernel) sig hs) rfl (by rw [hb]; exact (by decide +kernel : decode mj_dk.2.1 5 = .ok (.invokestatic 1059, 3)))
  · refine lv_pop hx hb (by decide +kernel) rfl ?_
    exact mj_pu_vret hx hb hrt hlk (by decide +kernel)
theorem mj_c_lat {a : Nat} {tx : List Int32} (hts : ∀ w, mj_Wd2 w → w.before A s0 = true) (hZ : mj_Str s0) (hT : mj_Txt s0 a tx) : mj_Pu l s0 mj_di 0 0 [.ref a] (some (.int 1)) := by
  refine mj_pu_body (by decide +kernel) fun p e s m below meth c hx hb hml hown hlk hrt hC => ?_
  obtain ⟨hZf, -⟩ := hZ
  obtain ⟨v, -, hco, -⟩ := hT
  have hZs := (hZf.moved hC.1.alike).kept (fun a ha _ => hC.2.2 a ha)
  have hcs := (hco.moved hC.1.alike).kept (fun a ha _ => hC.2.2 a ha)
  have J := fun (w : Cond) (h : mj_Wd2 w) => mj_JA (A' := ([.ref a] : List Value).toArray) hts hC h
  refine va_gets (index := 38) hx hb hZs va_S.rf hown (J _ (Or.inl (mj_jw 2 rfl))) (fun _ h => h) (by decide +kernel) ?_
  refine lv_if_eq (off := 14) (tgt := 17) hx hb (by decide +kernel) (by decide) (fun q => absurd q (by decide)) (fun _ => ?_)
  refine lv_aload_n (k := 0) (i := 0) hx hb (by decide +kernel) rfl rfl ?_
  refine vk_getf (index := 15) hx hb hcs va_S.rf hown (J _ (Or.inl (mj_jw 1 rfl))) (fun _ h => h) (by decide +kernel) ?_
  refine lv_if_ne (off := 7) (tgt := 17) hx hb (by decide +kernel) (by decide) (fun q => absurd rfl q) (fun _ => ?_)
  refine lv_iconst (n := 1) hx hb (by decide +kernel) rfl ?_
  refine lv_goto (off := 4) (tgt := 18) hx hb (by decide +kernel) (by decide) ?_
  exact mj_pu_ret hx hb hrt rfl hlk (by decide +kernel)
theorem mj_c_cod {a : Nat} {tx : List Int32} (hts : ∀ w, mj_Wd2 w → w.before A s0 = true) (hZ : mj_Str s0) (hT : mj_Txt s0 a tx) : mj_Pu l s0 mj_do 0 0 [.ref a] (some (.int 0)) := by
  refine mj_pu_body (by decide +kernel) fun p e s m below meth c hx hb hml hown hlk hrt hC => ?_
  obtain ⟨hZf, -⟩ := hZ
  obtain ⟨v, -, hco, -⟩ := hT
  have hZs := (hZf.moved hC.1.alike).kept (fun a ha _ => hC.2.2 a ha)
  have hcs := (hco.moved hC.1.alike).kept (fun a ha _ => hC.2.2 a ha)
  have J := fun (w : Cond) (h : mj_Wd2 w) => mj_JA (A' := ([.ref a] : List Value).toArray) hts hC h
  refine va_gets (index := 38) hx hb hZs va_S.rf hown (J _ (Or.inl (mj_jw 2 rfl))) (fun _ h => h) (by decide +kernel) ?_
  refine lv_if_eq (off := 10) (tgt := 13) hx hb (by decide +kernel) (by decide) (fun q => absurd q (by decide)) (fun _ => ?_)
  refine lv_aload_n (k := 0) (i := 0) hx hb (by decide +kernel) rfl rfl ?_
  refine vk_getf (index := 15) hx hb hcs va_S.rf hown (J _ (Or.inl (mj_jw 1 rfl))) (fun _ h => h) (by decide +kernel) ?_
  refine lv_goto (off := 4) (tgt := 14) hx hb (by decide +kernel) (by decide) ?_
  exact mj_pu_ret hx hb hrt rfl hlk (by decide +kernel)
theorem mj_c_len {a : Nat} {tx : List Int32} (hts : ∀ w, mj_Wd2 w → w.before A s0 = true) (hZ : mj_Str s0) (hT : mj_Txt s0 a tx) : mj_Pu l s0 mj_dl 1 20 [.ref a] (some (.int (Int32.ofNat tx.length))) := by
  refine mj_pu_body (by decide +kernel) fun p e s m below meth c hx hb hml hown hlk hrt hC => ?_
  have hT' := hT
  obtain ⟨v, ho, hco, hva, hby⟩ := hT
  have hvs := (hva.moved hC.1.alike).kept (fun a ha _ => hC.2.2 a ha)
  have hbs := (hby.moved hC.1.alike).kept (fun a ha _ => hC.2.2 a ha)
  have hos := (ho.moved hC.1.alike).kept (fun a ha _ => hC.2.2 a ha)
  have J := fun (w : Cond) (h : mj_Wd2 w) => mj_JA (A' := ([.ref a] : List Value).toArray) hts hC h
  refine lv_aload_n (k := 0) (i := 0) hx hb (by decide +kernel) rfl rfl ?_
  refine vk_getf (index := 9) hx hb hvs va_S.rf hown (J _ (Or.inl (mj_jw 0 rfl))) (fun _ h => h) (by decide +kernel) ?_
  refine va_tlen hx hb hbs va_S.rf rfl (by decide +kernel) ?_
  refine lv_aload_n (k := 0) (i := 0) hx hb (by decide +kernel) rfl rfl ?_
  refine mj_pu_call (rest := [.int (Int32.ofNat tx.length)]) (mj_c_cod hts hZ hT') hb hml hC va_S.rf (ig := .invokevirtual 335) (by decide +kernel) (J _ (mj_jd 2 rfl)) (J _ (Or.inl (mj_jw 24 rfl))) (by simp [Value.category]) (by decide) (by decide) (Nat.le_refl 0) (Nat.le_refl 0) (fun T hT XT => ?_) ?_
  · obtain ⟨ce, e1, e2, e3, -⟩ := hos
    exact mj_entV XT hx hown (J _ (Or.inl (mj_jw 4 rfl))) (J _ (Or.inl (mj_jw 9 rfl))) (J _ (Or.inl (mj_jw 14 rfl))) (J _ (mj_jd 2 rfl)) ⟨by decide, by decide⟩ (b := a) (by rw [hT]; exact e1) e2 e3 (argsL := []) rfl (fun sig hs => mj_pn_ok (y := mj_do.1) (n := 0) (by decide +kernel) sig hs) rfl (by rw [hb]; exact (by decide +kernel : decode mj_dl.2.1 6 = .ok (.invokevirtual 335, 3)))
  · refine lv_ishr hx hb (by decide +kernel) ?_
    have e : (Int32.ofNat tx.length) >>> ((0 : Int32) &&& 31) = Int32.ofNat tx.length := by
      rw [show (0 : Int32) &&& 31 = 0 from rfl, Int32.shiftRight_zero]
    rw [e]
    exact mj_pu_ret hx hb hrt rfl hlk (by decide +kernel)
theorem mj_c_lch {t : Nat} {tx : List Int32} {k : Int32} (hts : ∀ w, mj_Wd2 w → w.before A s0 = true) (hZ : mj_Str s0) (hby : va_T .byte t tx.length (fun j => .int (tx.getD j 0)) (fun q => s0.heap.size ≤ q) s0 s0.heap) (hl : tx.length < 2 ^ 31) (hk : vp_in k tx.length) (hc : (((tx.getD k.toNatClampNeg 0) &&& 255).toUInt32 % 65536).toInt32 = tx.getD k.toNatClampNeg 0) (hn : narrow .char (.int (tx.getD k.toNatClampNeg 0)) = .int (tx.getD k.toNatClampNeg 0)) :
    mj_Pu l s0 mj_d1 2 43 [.ref t, .int k] (some (.int (tx.getD k.toNatClampNeg 0))) := by
  refine mj_pu_body (by decide +kernel) fun p e s m below meth c hx hb hml hown hlk hrt hC => ?_
  have hbs := (hby.moved hC.1.alike).kept (fun a ha _ => hC.2.2 a ha)
  have J := fun (w : Cond) (h : mj_Wd2 w) => mj_JA (A' := ([.ref t, .int k] : List Value).toArray) hts hC h
  have h1 : ¬ k < 0 := fun q => hk (Or.inl q)
  have h2 : k < Int32.ofNat tx.length := by
    have h3 : k.toNatClampNeg < tx.length := Nat.not_le.mp fun q => hk (Or.inr q)
    rw [Int32.lt_iff_toInt_lt] at h1 ⊢
    rw [Int32.toInt_ofNat_of_lt hl]
    have e0 : (0 : Int32).toInt = 0 := rfl
    have : k.toNatClampNeg = k.toInt.toNat := rfl
    omega
  refine lv_iload_n (k := 1) (i := 1) hx hb (by decide +kernel) rfl rfl ?_
  refine lv_aload_n (k := 0) (i := 0) hx hb (by decide +kernel) rfl rfl ?_
  refine va_tlen hx hb hbs va_S.rf rfl (by decide +kernel) ?_
  refine mj_pu_call (rest := []) (mj_c_chk hts hZ h1 h2) hb hml hC va_S.rf (ig := .invokestatic 9) (by decide +kernel) (J _ (mj_jd 4 rfl)) (J _ (Or.inl (mj_jw 24 rfl))) (by decide) (by decide) (by decide) (Nat.le_refl 0) (Nat.le_refl 0) (fun T hT XT => ?_) ?_
  · exact mj_entS XT hx hown (J _ (Or.inl (mj_jw 7 rfl))) (J _ (Or.inl (mj_jw 19 rfl))) (J _ (Or.inl (mj_jw 24 rfl))) (J _ (mj_jd 4 rfl)) ⟨by decide, by decide⟩ (argsL := [.int k, .int (Int32.ofNat tx.length)]) rfl (fun sig hs => mj_pn_ok (y := mj_dk.1) (n := 2) (by decide +kernel) sig hs) rfl (by rw [hb]; exact (by decide +kernel : decode mj_d1.2.1 3 = .ok (.invokestatic 9, 3)))
  · refine lv_aload_n (k := 0) (i := 0) hx hb (by decide +kernel) rfl rfl ?_
    refine lv_iload_n (k := 1) (i := 1) hx hb (by decide +kernel) rfl rfl ?_
    refine va_tb hx hb hbs va_S.rf hk rfl (by decide +kernel) ?_
    refine lv_sipush (n := 255) hx hb (by decide +kernel) rfl ?_
    refine lv_iand hx hb (by decide +kernel) ?_
    refine lv_i2c hx hb (by decide +kernel) hc ?_
    exact mj_pu_ret hx hb hrt hn hlk (by decide +kernel)
theorem mj_c_cha {a : Nat} {tx : List Int32} {k : Int32} (hts : ∀ w, mj_Wd2 w → w.before A s0 = true) (hZ : mj_Str s0) (hT : mj_Txt s0 a tx) (hl : tx.length < 2 ^ 31) (hk : vp_in k tx.length) (hc : (((tx.getD k.toNatClampNeg 0) &&& 255).toUInt32 % 65536).toInt32 = tx.getD k.toNatClampNeg 0) (hn : narrow .char (.int (tx.getD k.toNatClampNeg 0)) = .int (tx.getD k.toNatClampNeg 0)) :
    mj_Pu l s0 mj_dc 3 64 [.ref a, .int k] (some (.int (tx.getD k.toNatClampNeg 0))) := by
  refine mj_pu_body (by decide +kernel) fun p e s m below meth c hx hb hml hown hlk hrt hC => ?_
  have hT' := hT
  obtain ⟨v, ho, hco, hva, hby⟩ := hT
  have hvs := (hva.moved hC.1.alike).kept (fun a ha _ => hC.2.2 a ha)
  have hos := (ho.moved hC.1.alike).kept (fun a ha _ => hC.2.2 a ha)
  have J := fun (w : Cond) (h : mj_Wd2 w) => mj_JA (A' := ([.ref a, .int k] : List Value).toArray) hts hC h
  refine lv_aload_n (k := 0) (i := 0) hx hb (by decide +kernel) rfl rfl ?_
  refine mj_pu_call (rest := []) (mj_c_lat hts hZ hT') hb hml hC va_S.rf (ig := .invokevirtual 492) (by decide +kernel) (J _ (mj_jd 3 rfl)) (J _ (Or.inl (mj_jw 24 rfl))) (by decide) (by decide) (by decide) (Nat.le_refl 0) (Nat.le_refl 0) (fun T hT XT => ?_) ?_
  · obtain ⟨ce, e1, e2, e3, -⟩ := hos
    exact mj_entV XT hx hown (J _ (Or.inl (mj_jw 5 rfl))) (J _ (Or.inl (mj_jw 10 rfl))) (J _ (Or.inl (mj_jw 15 rfl))) (J _ (mj_jd 3 rfl)) ⟨by decide, by decide⟩ (b := a) (by rw [hT]; exact e1) e2 e3 (argsL := []) rfl (fun sig hs => mj_pn_ok (y := mj_di.1) (n := 0) (by decide +kernel) sig hs) rfl (by rw [hb]; exact (by decide +kernel : decode mj_dc.2.1 1 = .ok (.invokevirtual 492, 3)))
  · refine lv_if_eq (off := 12) (tgt := 16) hx hb (by decide +kernel) (by decide) (fun q => absurd q (by decide)) (fun _ => ?_)
    refine lv_aload_n (k := 0) (i := 0) hx hb (by decide +kernel) rfl rfl ?_
    refine vk_getf (index := 9) hx hb hvs va_S.rf hown (J _ (Or.inl (mj_jw 0 rfl))) (fun _ h => h) (by decide +kernel) ?_
    refine lv_iload_n (k := 1) (i := 1) hx hb (by decide +kernel) rfl rfl ?_
    refine mj_pu_call (rest := []) (mj_c_lch hts hZ hby hl hk hc hn) hb hml hC va_S.rf (ig := .invokestatic 495) (by decide +kernel) (J _ (mj_jd 5 rfl)) (J _ (Or.inl (mj_jw 25 rfl))) (by decide) (by decide) (by decide) (Nat.le_refl 0) (Nat.le_refl 0) (fun T hT XT => ?_) ?_
    · exact mj_entS XT hx hown (J _ (Or.inl (mj_jw 6 rfl))) (J _ (Or.inl (mj_jw 18 rfl))) (J _ (Or.inl (mj_jw 25 rfl))) (J _ (mj_jd 5 rfl)) ⟨by decide, by decide⟩ (argsL := [.ref v, .int k]) rfl (fun sig hs => mj_pn_ok (y := mj_d1.1) (n := 2) (by decide +kernel) sig hs) rfl (by rw [hb]; exact (by decide +kernel : decode mj_dc.2.1 12 = .ok (.invokestatic 495, 3)))
    · exact mj_pu_ret hx hb hrt hn hlk (by decide +kernel)
end MJST
