/-! CALLS OF length, charAt, clone -/
section MJB2
variable {p : Program} {l : Launch} {e : Env} {R : Room} {s s0 : State} {m : MethodId} {args A : Array Value} {below : List Frame} {meth : Method} {c : Code}
variable {D : va_G} {ka : Nat → ClassId} {E : mj_S} {aE a0 : Nat → Nat} {cc : ByteArray} {nL : Nat} {ini : Prop} {X : mj_X} {hd : mj_H} {cls : mj_C} {o d : Nat}
/-- the texts of the literals -/
def mj_Lit (s0 : State) (a0 : Nat → Nat) (X : mj_X) : Prop := mj_Str s0 ∧ ∀ i tx, X.2.1[i]? = some tx → mj_Txt s0 (a0 (900001 + i)) tx ∧ tx.length < 2 ^ 31 ∧ ∀ j, ((tx.getD j 0 &&& 255).toUInt32 % 65536).toInt32 = tx.getD j 0 ∧ narrow .char (.int (tx.getD j 0)) = .int (tx.getD j 0)
theorem mj_Iok_len (hB : mj_Cal p l R s s0 m args meth c D ka E aE a0 cc nL ini X hd cls o d) (hbi : ∀ M as S Q, 900 ≤ M → cls M as S Q → mj_bi X M as S Q) (hts : ∀ w, mj_Wd2 w → w.before A s0 = true) (hL : mj_Lit s0 a0 X) {pc n b t : Nat} {k : Int32} {kl : Int64} {sw : List (Int32 × Nat)} (hdec : decode cc pc = .ok (.invokevirtual n, 3)) (ht : t = 999) (w1 : mj_Wd (.methodLink (mj_nm o) n mj_dl.1)) :
    mj_Iok p l e R s m args below meth c D mj_cl mj_ft ka s0.heap.size E aE nL X hd cls (pc, .invokevirtual n, 3, (904, b, t), k, kl, sw) := by
  intro nx K Q Z hN hK hQ hX ad lv st S H locs cells slots ls hR hl hwl hwt h
  subst ht
  obtain ⟨hx, hb, hml, hown, hlk, hwd, hself, hH, hG, hC, ha0, hcon, hf, hlo, hR1, hR2, hKt, hmh⟩ := hB
  obtain ⟨as, r, rfl, hwg, hcl⟩ := mj_iv_st (show mj_iv hd cls nx Q pc 904 b K lv st S from h)
  have q := hbi 904 as S _ (by decide) hcl
  have r6 := hR.2.2.2.2.2
  have r4 := hR.2.2.2.1.1
  have g4 := hG.2.2.2.1
  have g5 := hG.2.2.2.2.1
  unfold mj_bi at q
  split at q <;> first | omega | skip
  · rename_i ob hz
    obtain ⟨tx, e0, h0, q⟩ := mj_so_sp q
    obtain ⟨hT, -, -⟩ := hL.2 _ _ e0
    have h0 : (900001 : Nat) ≤ ob := h0
    have ea : ad ob = a0 (900001 + (ob - 900001)) := by
      rw [show 900001 + (ob - 900001) = ob from Nat.add_sub_cancel' h0, hR.2.2.2.2.1.2 ob (Or.inr (by omega)), ha0 ob (by omega)]
    rw [← ea] at hT
    have hos := (hT.choose_spec.1.moved hC.1.alike).kept (fun a ha _ => hC.2.2 a ha)
    obtain ⟨ce, e1, e2, e3, -⟩ := hos.kept hR.2.2.1.2.1
    have J := fun (w : Cond) (h : mj_Wd2 w) => mj_JA (A' := args) hts hC h
    show W p l e R s m args below meth c H locs cells slots Z (F0 m pc ls (.ref (ad ob) :: r.map (mj_tr ad)))
    refine mj_pu_call (rest := r.map (mj_tr ad)) (mj_c_len hts hL.1 hT) hb (by rw [hml]; exact hl.1.symm) hC hR.2.2.1 (ig := .invokevirtual n) hdec (J _ (mj_jd 0 rfl)) (J _ (Or.inl (mj_jw 24 rfl))) (by rw [mj_wg_sum]; exact hwg) (by omega) (by show 8 + (1 + 11) + 20 ≤ R.locals; omega) (by omega) (by omega) (fun T hT XT => ?_) ?_
    · exact mj_entV XT hx hown (hwd _ (Or.inl w1)) (J _ (Or.inl (mj_jw 11 rfl))) (J _ (Or.inl (mj_jw 16 rfl))) (J _ (mj_jd 0 rfl)) ⟨by decide, by decide⟩ (b := ad ob) (by rw [hT]; exact e1) e2 e3 (argsL := []) rfl (fun sig hs => mj_pn_ok (y := mj_dl.1) (n := 0) (by decide +kernel) sig hs) rfl (by rw [hb]; exact hdec)
    · exact hK ad lv (.int (Int32.ofNat tx.length) :: r) S H locs cells slots ls hR hl hwl (mj_wT.tail hwt).pushI q
  · exact q.elim
theorem mj_Iok_chat (hB : mj_Cal p l R s s0 m args meth c D ka E aE a0 cc nL ini X hd cls o d) (hbi : ∀ M as S Q, 900 ≤ M → cls M as S Q → mj_bi X M as S Q) (hts : ∀ w, mj_Wd2 w → w.before A s0 = true) (hL : mj_Lit s0 a0 X) {pc n b t : Nat} {k : Int32} {kl : Int64} {sw : List (Int32 × Nat)} (hdec : decode cc pc = .ok (.invokevirtual n, 3)) (ht : t = 999) (w1 : mj_Wd (.methodLink (mj_nm o) n mj_dc.1)) :
    mj_Iok p l e R s m args below meth c D mj_cl mj_ft ka s0.heap.size E aE nL X hd cls (pc, .invokevirtual n, 3, (905, b, t), k, kl, sw) := by
  intro nx K Q Z hN hK hQ hX ad lv st S H locs cells slots ls hR hl hwl hwt h
  subst ht
  obtain ⟨hx, hb, hml, hown, hlk, hwd, hself, hH, hG, hC, ha0, hcon, hf, hlo, hR1, hR2, hKt, hmh⟩ := hB
  obtain ⟨as, r, rfl, hwg, hcl⟩ := mj_iv_st (show mj_iv hd cls nx Q pc 905 b K lv st S from h)
  have q := hbi 905 as S _ (by decide) hcl
  have r6 := hR.2.2.2.2.2
  have r4 := hR.2.2.2.1.1
  have g4 := hG.2.2.2.1
  have g5 := hG.2.2.2.2.1
  unfold mj_bi at q
  split at q <;> first | omega | skip
  · rename_i ob kk hz
    obtain ⟨tx, e0, ⟨h0, h1⟩, q⟩ := mj_so_sp q
    obtain ⟨hT, hl31, hch⟩ := hL.2 _ _ e0
    have h0 : (900001 : Nat) ≤ ob := h0
    have ea : ad ob = a0 (900001 + (ob - 900001)) := by
      rw [show 900001 + (ob - 900001) = ob from Nat.add_sub_cancel' h0, hR.2.2.2.2.1.2 ob (Or.inr (by omega)), ha0 ob (by omega)]
    rw [← ea] at hT
    have hos := (hT.choose_spec.1.moved hC.1.alike).kept (fun a ha _ => hC.2.2 a ha)
    obtain ⟨ce, e1, e2, e3, -⟩ := hos.kept hR.2.2.1.2.1
    have J := fun (w : Cond) (h : mj_Wd2 w) => mj_JA (A' := args) hts hC h
    show W p l e R s m args below meth c H locs cells slots Z (F0 m pc ls (.int kk :: .ref (ad ob) :: r.map (mj_tr ad)))
    refine mj_pu_call (rest := r.map (mj_tr ad)) (mj_c_cha hts hL.1 hT hl31 h1 (hch _).1 (hch _).2) hb (by rw [hml]; exact hl.1.symm) hC hR.2.2.1 (ig := .invokevirtual n) hdec (J _ (mj_jd 1 rfl)) (J _ (Or.inl (mj_jw 24 rfl))) (by rw [mj_wg_sum]; exact hwg) (by omega) (by show 8 + (2 + 11) + 64 ≤ R.locals; omega) (by omega) (by omega) (fun T hT XT => ?_) ?_
    · exact mj_entV XT hx hown (hwd _ (Or.inl w1)) (J _ (Or.inl (mj_jw 12 rfl))) (J _ (Or.inl (mj_jw 17 rfl))) (J _ (mj_jd 1 rfl)) ⟨by decide, by decide⟩ (b := ad ob) (by rw [hT]; exact e1) e2 e3 (argsL := [.int kk]) rfl (fun sig hs => mj_pn_ok (y := mj_dc.1) (n := 1) (by decide +kernel) sig hs) rfl (by rw [hb]; exact hdec)
    · exact hK ad lv (.int (tx.getD kk.toNatClampNeg 0) :: r) S H locs cells slots ls hR hl hwl (mj_wT.tail (mj_wT.tail hwt)).pushI q
  · exact q.elim
theorem mj_Iok_clone (hB : mj_Cal p l R s s0 m args meth c D ka E aE a0 cc nL ini X hd cls o d) (hbi : ∀ M as S Q, 900 ≤ M → cls M as S Q → mj_bi X M as S Q) (hts : ∀ w, mj_Wd2 w → w.before A s0 = true) (hcl : va_Nw (.castable "[I" "java/lang/Cloneable") s0) {pc n b t : Nat} {k : Int32} {kl : Int64} {sw : List (Int32 × Nat)} (hdec : decode cc pc = .ok (.invokevirtual n, 3)) (ht : t = 999) (w1 : mj_Wd (.methodLink (mj_nm o) n ⟨"[I", "clone", "()Ljava/lang/Object;"⟩)) :
    mj_Iok p l e R s m args below meth c D mj_cl mj_ft ka s0.heap.size E aE nL X hd cls (pc, .invokevirtual n, 3, (903, b, t), k, kl, sw) := by
  intro nx K Q Z hN hK hQ hX ad lv st S H locs cells slots ls hR hl hwl hwt h
  subst ht
  obtain ⟨hx, hb, hml, hown, hlk, hwd, hself, hH, hG, hC, ha0, hcon, hf, hlo, hR1, hR2, hKt, hmh⟩ := hB
  obtain ⟨as, r, rfl, hwg, hcl'⟩ := mj_iv_st (show mj_iv hd cls nx Q pc 903 b K lv st S from h)
  have q := hbi 903 as S _ (by decide) hcl'
  have r6 := hR.2.2.2.2.2
  have r4 := hR.2.2.2.1
  have g4 := hG.2.2.2.1
  have g5 := hG.2.2.2.2.1
  have g2 := hG.2.1
  have g3 := hG.2.2.1
  unfold mj_bi at q
  split at q <;> first | omega | skip
  · rename_i ob hz
    obtain ⟨n0, e0, ⟨h0, h1⟩, q⟩ := mj_so_sp q
    have o0 := mj_ar_sp e0
    have a0' := mj_ws_at (ft := mj_ft) (ka := ka) (ad := ad) o0
    rw [mj_ent_arr (by decide)] at a0'
    have J := fun (w : Cond) (h : mj_Wd2 w) => mj_JA (A' := args) hts hC h
    have hb1 : S.2.2.2.2.1 + 1 ≤ 601024 ∧ S.2.2.2.2.2 + n0 ≤ 7293034 := by omega
    show W p l e R s m args below meth c H locs cells slots Z (F0 m pc ls (.ref (ad ob) :: r.map (mj_tr ad)))
    refine va_clone hx hb (by rw [hml]; exact hl.1.symm) hown (hwd _ (Or.inl w1)) (J _ (Or.inl (mj_jw 29 rfl))) (J _ (Or.inl (mj_jw 30 rfl))) (J _ (Or.inl (mj_jw 13 rfl))) (J _ (Or.inl (mj_jw 32 rfl))) (va_Nw.warmC hC.1 hcl) hKt hR.1 hR.2.1 hR.2.2.1 (fun q hq => Nat.le_trans g2 hq) ob 0 a0' rfl (va_nm_int (hKt.2 0 _ rfl).2) (fun i v hv => va_fit (F := fun i => .int (S.2.1 ob i)) (fun i _ => rfl) i v hv) (by omega) (by rw [mj_wg_sum]; omega) (by omega) (by show slots + n0 ≤ _; omega) hdec (fun q' H1 _ hP hD hS => ?_)
    have hu : S.1.length ≤ (S.1 ++ [(1000, n0)]).length := by simp
    have hwr : mj_wT S.1.length r := mj_wT.tail hwt
    rw [← mj_map_ad (ad' := mj_nA S ad q') hwr (fun i hi => mj_nA_old r4 hi), show Value.ref q' = mj_tr (mj_nA S ad q') (.ref S.1.length) by simp [mj_tr, mj_nA_new]]
    refine hK (mj_nA S ad q') lv (.ref S.1.length :: r) (S.1 ++ [(1000, n0)], mj_row S.2.1 S.1.length (S.2.1 ob), mj_row S.2.2.1 S.1.length (fun _ => 0), mj_row S.2.2.2.1 S.1.length (fun _ => none), S.2.2.2.2.1 + 1, S.2.2.2.2.2 + n0) H1 locs (cells + 1) (slots + n0) ls ?_ (hl.ad hwl (fun i hi => mj_nA_old r4 hi)) (hwl.up hu) ((hwr.up hu).push (Or.inl (by simp))) q
    obtain ⟨n1, n2, n3⟩ := mj_ws_new (ft := mj_ft) (ka := ka) (ad := ad) (k := 1000) (n := n0) (q := q') r4 hb1
    have e2 := mj_ws_set (ft := mj_ft) (ka := ka) (ad := mj_nA S ad q') (S := mj_nS S 1000 n0) (S' := (S.1 ++ [(1000, n0)], mj_row S.2.1 S.1.length (S.2.1 ob), mj_row S.2.2.1 S.1.length (fun _ => 0), mj_row S.2.2.2.1 S.1.length (fun _ => none), S.2.2.2.2.1 + 1, S.2.2.2.2.2 + n0)) (a := S.1.length) (kn := (1000, n0)) (by simp [mj_nS]) rfl (fun b hb => ⟨by simp [mj_nS, mj_row_ne hb], rfl, rfl⟩)
    rw [show mj_ws mj_ft ka (mj_nA S ad q') (mj_nS S 1000 n0) = _ from n1, List.set_append_right _ _ (by rw [mj_ws_len]; exact Nat.le_refl _), mj_ws_len, Nat.sub_self, List.set_cons_zero, mj_nA_new, mj_ent_arr (t := 0) (by decide)] at e2
    dsimp only at e2
    rw [show (mj_row S.2.1 S.1.length (S.2.1 ob)) S.1.length = S.2.1 ob from mj_row_eq] at e2
    refine ⟨by rw [e2]; exact hP, by rw [e2]; exact hD, hS, ⟨n2.1, fun a j q hq => n2.2 a j q hq⟩, ⟨?_, fun i hi => ?_⟩, ?_, ?_⟩
    · exact Nat.le_trans hR.2.2.2.2.1.1 hu
    · rw [mj_nA_old r4 (hi.up hR.2.2.2.2.1.1)]
      exact hR.2.2.2.2.1.2 i hi
    · show S.2.2.2.2.1 + 1 = E.2.2.2.2.1 + (cells + 1)
      omega
    · show S.2.2.2.2.2 + n0 = E.2.2.2.2.2 + (slots + n0)
      omega
  · exact q.elim
end MJB2
