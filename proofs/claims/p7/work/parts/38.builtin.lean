/-! THE JDK's OWN METHODS, as the mini machine has them -/
def mj_bi (X : mj_X) : mj_C := fun M as S Q => match M, as with
  | 900, [.int x] => Q (.inl (some (.int (if 0 ≤ x then x else 0 - x)))) S
  | 901, [.int x, .int y] => Q (.inl (some (.int (if x < y then y else x)))) S
  | 902, [.ref o, .int sp, .ref q, .int dp, .int n] => mj_so (fun n0 => mj_so (fun n1 => (¬ sp < 0 ∧ ¬ dp < 0 ∧ ¬ n < 0 ∧ sp.toNatClampNeg + n.toNatClampNeg ≤ n0 ∧ dp.toNatClampNeg + n.toNatClampNeg ≤ n1) ∧ Q (.inl none) (S.1, mj_row S.2.1 q (va_cpy (S.2.1 o) (S.2.1 q) sp.toNatClampNeg dp.toNatClampNeg n.toNatClampNeg), S.2.2)) (mj_ar S.1 q 0)) (mj_ar S.1 o 0)
  | 903, [.ref o] => mj_so (fun n => (S.2.2.2.2.1 + 1 ≤ X.2.2.1 ∧ S.2.2.2.2.2 + n ≤ X.2.2.2) ∧ Q (.inl (some (.ref S.1.length))) (S.1 ++ [(1000, n)], mj_row S.2.1 S.1.length (S.2.1 o), mj_row S.2.2.1 S.1.length (fun _ => 0), mj_row S.2.2.2.1 S.1.length (fun _ => none), S.2.2.2.2.1 + 1, S.2.2.2.2.2 + n)) (mj_ar S.1 o 0)
  | 904, [.ref o] => mj_so (fun tx => 900001 ≤ o ∧ Q (.inl (some (.int (Int32.ofNat tx.length)))) S) (X.2.1[o - 900001]?)
  | 905, [.ref o, .int k] => mj_so (fun tx => (900001 ≤ o ∧ vp_in k tx.length) ∧ Q (.inl (some (.int (tx.getD k.toNatClampNeg 0)))) S) (X.2.1[o - 900001]?)
  | _, _ => False
theorem mj_bi_ex {X : mj_X} {Z : Type} {P : Z → Prop} {M : Nat} {as : List Value} {S : mj_S} {Q : mj_Q} {Q' : Z → mj_Q} (h : ∀ o S, Q o S → ∃ z, Q' z o S ∧ P z) (q : mj_bi X M as S Q) : ∃ z, mj_bi X M as S (Q' z) ∧ P z := by
  unfold mj_bi at q ⊢
  split at q
  · exact h _ _ q
  · exact h _ _ q
  · exact mj_so_ex (fun _ => mj_so_ex fun _ => mj_an_ex (h _ _)) q
  · exact mj_so_ex (fun _ => mj_an_ex (h _ _)) q
  · exact mj_so_ex (fun _ => mj_an_ex (h _ _)) q
  · exact mj_so_ex (fun _ => mj_an_ex (h _ _)) q
  · exact q.elim
theorem mj_bi_mono (X : mj_X) : mj_Mono (mj_bi X) := fun M as S Q Q' hQ q => by
  obtain ⟨-, w, -⟩ := mj_bi_ex (Z := Unit) (P := fun _ => True) (Q' := fun _ => Q') (fun o S h => ⟨(), hQ o S h, trivial⟩) q
  exact w
theorem mj_bi_one (X : mj_X) : mj_Ex (mj_bi X) := fun M as S Q q => by
  obtain ⟨⟨o, S'⟩, w1, w2⟩ := mj_bi_ex (Z := mj_O × mj_S) (P := fun z => Q z.1 z.2) (Q' := fun z a b => a = z.1 ∧ b = z.2) (fun o S h => ⟨(o, S), ⟨rfl, rfl⟩, h⟩) q
  exact ⟨o, S', w1, w2⟩
section MJBI
variable {p : Program} {l : Launch} {e : Env} {R : Room} {s s0 : State} {m : MethodId} {args : Array Value} {below : List Frame} {meth : Method} {c : Code}
variable {D : va_G} {ka : Nat → ClassId} {E : mj_S} {aE a0 : Nat → Nat} {cc : ByteArray} {nL : Nat} {ini : Prop} {X : mj_X} {hd : mj_H} {cls : mj_C} {o d : Nat}
theorem mj_iv_st {nx : mj_N} {Q : mj_Q} {pc a n : Nat} {K : mj_K} {lv : mj_LV} {st : List Value} {S : mj_S} (h : mj_iv hd cls nx Q pc a n K lv st S) : ∃ as r, st = as.reverse ++ r ∧ mj_wg r ≤ 8 ∧ cls a as S (mj_ret hd nx pc K lv r Q) := by
  obtain ⟨as, r, h1, h2, h3⟩ := mj_iv_sp h
  obtain ⟨bs, rfl, -, h4⟩ := mj_tk_sp _ _ _ _ _ h1
  rw [List.append_nil] at h4
  exact ⟨as, r, by rw [h4, List.reverse_reverse], h2, h3⟩
theorem mj_Iok_abs (hB : mj_Cal p l R s s0 m args meth c D ka E aE a0 cc nL ini X hd cls o d) (hbi : ∀ M as S Q, 900 ≤ M → cls M as S Q → mj_bi X M as S Q) {pc n b t : Nat} {k : Int32} {kl : Int64} {sw : List (Int32 × Nat)} (hdec : decode cc pc = .ok (.invokestatic n, 3)) (w1 : mj_Wd (.methodLink (mj_nm o) n Lib.Math.abs.name)) (w2 : mj_Wd (.static Lib.Math.abs.name)) (w3 : mj_Wd (.initialized "java/lang/Math")) (w4 : mj_Wd (.code Lib.Math.abs.name Lib.Math.abs.code 1 (some .int))) :
    mj_Iok p l e R s m args below meth c D mj_cl mj_ft ka s0.heap.size E aE nL X hd cls (pc, .invokestatic n, 3, (900, b, t), k, kl, sw) := by
  intro nx K Q Z hN hK hQ hX ad lv st S H locs cells slots ls hR hl hwl hwt h
  obtain ⟨hx, hb, hml, hown, hlk, hwd, hself, hH, hG, hC, ha0, hcon, hf, hlo, hR1, hR2, hKt, hmh⟩ := hB
  obtain ⟨as, r, rfl, hwg, hcl⟩ := mj_iv_st (show mj_iv hd cls nx Q pc 900 b K lv st S from h)
  have q := hbi 900 as S _ (Nat.le_refl _) hcl
  have r6 := hR.2.2.2.2.2
  have r4 := hR.2.2.2.1.1
  have g4 := hG.2.2.2.1
  unfold mj_bi at q
  split at q <;> first | omega | skip
  · rename_i x
    refine va_mabs hx hb (by rw [hml]; exact hl.1.symm) hown (hwd _ (Or.inl w1)) (hwd _ (Or.inl w2)) (hwd _ (Or.inl w3)) (hwd _ (Or.inl w4)) (by omega) ?_ (by omega) (by omega) hdec (hK ad lv _ S H locs cells slots ls hR hl hwl ?_ q)
    · show ((r.map (mj_tr ad)).map fun v => v.category).sum + 13 ≤ R.locals
      rw [mj_wg_sum]
      have := hG.2.2.2.2.1.2
      omega
    · exact (mj_wT.tail hwt).pushI
  · exact q.elim
theorem mj_Iok_max (hB : mj_Cal p l R s s0 m args meth c D ka E aE a0 cc nL ini X hd cls o d) (hbi : ∀ M as S Q, 900 ≤ M → cls M as S Q → mj_bi X M as S Q) {pc n b t : Nat} {k : Int32} {kl : Int64} {sw : List (Int32 × Nat)} (hdec : decode cc pc = .ok (.invokestatic n, 3)) (w1 : mj_Wd (.methodLink (mj_nm o) n Lib.Math.max.name)) (w2 : mj_Wd (.static Lib.Math.max.name)) (w3 : mj_Wd (.initialized "java/lang/Math")) (w4 : mj_Wd (.code Lib.Math.max.name Lib.Math.max.code 2 (some .int))) :
    mj_Iok p l e R s m args below meth c D mj_cl mj_ft ka s0.heap.size E aE nL X hd cls (pc, .invokestatic n, 3, (901, b, t), k, kl, sw) := by
  intro nx K Q Z hN hK hQ hX ad lv st S H locs cells slots ls hR hl hwl hwt h
  obtain ⟨hx, hb, hml, hown, hlk, hwd, hself, hH, hG, hC, ha0, hcon, hf, hlo, hR1, hR2, hKt, hmh⟩ := hB
  obtain ⟨as, r, rfl, hwg, hcl⟩ := mj_iv_st (show mj_iv hd cls nx Q pc 901 b K lv st S from h)
  have q := hbi 901 as S _ (by decide) hcl
  have r6 := hR.2.2.2.2.2
  have r4 := hR.2.2.2.1.1
  have g4 := hG.2.2.2.1
  unfold mj_bi at q
  split at q <;> first | omega | skip
  · rename_i x y
    refine va_mmax hx hb (by rw [hml]; exact hl.1.symm) hown (hwd _ (Or.inl w1)) (hwd _ (Or.inl w2)) (hwd _ (Or.inl w3)) (hwd _ (Or.inl w4)) (by omega) ?_ (by omega) (by omega) hdec (hK ad lv _ S H locs cells slots ls hR hl hwl ?_ q)
    · show ((r.map (mj_tr ad)).map fun v => v.category).sum + 13 ≤ R.locals
      rw [mj_wg_sum]
      have := hG.2.2.2.2.1.2
      omega
    · exact (mj_wT.tail (mj_wT.tail hwt)).pushI
  · exact q.elim
theorem mj_Iok_copy (hB : mj_Cal p l R s s0 m args meth c D ka E aE a0 cc nL ini X hd cls o d) (hbi : ∀ M as S Q, 900 ≤ M → cls M as S Q → mj_bi X M as S Q) {pc n b t : Nat} {k : Int32} {kl : Int64} {sw : List (Int32 × Nat)} (hdec : decode cc pc = .ok (.invokestatic n, 3)) (w1 : mj_Wd (.methodLink (mj_nm o) n arraycopyName)) (w2 : mj_Wd (.native arraycopyName)) (w3 : mj_Wd (.static arraycopyName)) (w4 : mj_Wd (.initialized "java/lang/System")) :
    mj_Iok p l e R s m args below meth c D mj_cl mj_ft ka s0.heap.size E aE nL X hd cls (pc, .invokestatic n, 3, (902, b, t), k, kl, sw) := by
  intro nx K Q Z hN hK hQ hX ad lv st S H locs cells slots ls hR hl hwl hwt h
  obtain ⟨hx, hb, hml, hown, hlk, hwd, hself, hH, hG, hC, ha0, hcon, hf, hlo, hR1, hR2, hKt, hmh⟩ := hB
  obtain ⟨as, r, rfl, hwg, hcl⟩ := mj_iv_st (show mj_iv hd cls nx Q pc 902 b K lv st S from h)
  have q := hbi 902 as S _ (by decide) hcl
  unfold mj_bi at q
  split at q <;> first | omega | skip
  · rename_i ob sp qb dp n' hz
    obtain ⟨n0, e0, q⟩ := mj_so_sp q
    obtain ⟨n1, e1, ⟨h1, h2, h3, h4, h5⟩, q⟩ := mj_so_sp q
    have o0 := mj_ar_sp e0
    have o1 := mj_ar_sp e1
    have a0' := mj_ws_at (ft := mj_ft) (ka := ka) (ad := ad) o0
    have a1' := mj_ws_at (ft := mj_ft) (ka := ka) (ad := ad) o1
    rw [mj_ent_arr (by decide)] at a0' a1'
    refine va_copyi hx hb (by rw [hml]; exact hl.1.symm) hown (hwd _ (Or.inl w1)) (hwd _ (Or.inl w2)) (hwd _ (Or.inl w3)) (hwd _ (Or.inl w4)) hKt hR.1 hR.2.1 hR.2.2.1 ob qb 0 0 a0' a1' rfl rfl rfl h1 h2 h3 h4 h5 (fun i hi => rfl) (by omega) ?_ hdec (fun H' locs' hP hD hS => hK ad lv r (S.1, mj_row S.2.1 qb (va_cpy (S.2.1 ob) (S.2.1 qb) sp.toNatClampNeg dp.toNatClampNeg n'.toNatClampNeg), S.2.2) H' locs' cells slots ls ?_ hl hwl ?_ q)
    · show ((r.map (mj_tr ad)).map fun v => v.category).sum + _ ≤ R.locals
      rw [mj_wg_sum]
      have := hG.2.2.2.2.1.2
      have : nativeFrameWords "java/lang/System" "arraycopy" 5 ≤ 200 := by decide +kernel
      omega
    · have e : mj_ent mj_ft ka ad (S.1, mj_row S.2.1 qb (va_cpy (S.2.1 ob) (S.2.1 qb) sp.toNatClampNeg dp.toNatClampNeg n'.toNatClampNeg), S.2.2) qb (1000 + 0, n1) = .inl (ka 0, n1, .inl (va_cpy (S.2.1 ob) (S.2.1 qb) sp.toNatClampNeg dp.toNatClampNeg n'.toNatClampNeg)) := by
        rw [mj_ent_arr (by decide)]
        show Sum.inl (_, _, Sum.inl (mj_row S.2.1 qb _ qb)) = _
        rw [mj_row_eq]
      exact hR.set o1 rfl (fun b hb => ⟨mj_row_ne hb, rfl, rfl⟩) (fun j q hq => hR.2.2.2.1.2 qb j q hq) rfl (by rw [e]; exact hP) (by rw [e]; exact hD) hS
    · exact fun v hv => hwt v (List.mem_append_right _ hv)
  · exact q.elim
end MJBI
