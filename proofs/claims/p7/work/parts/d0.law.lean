/-! THE LAW of count alone, over scripts of at most 2048 ints -/
section MJLW
variable {L D : Nat} {xs : Nat → Int32} {Rf : Nat → Nat → Option Nat}
theorem lg_self (a : Int64) : lg_cmp a a = 0 := by
  unfold lg_cmp
  simp
theorem l_law (hL : L ≤ 2048) (hD : 790 ≤ D) (hR : mj_Rt mp_R Rf) (hM' : mj_Rt mm_R Rf) :
    ∀ (m j : Nat) (I : Nat → Nat → Int32) (Lg : Nat → Nat → Int64) (nc ns : Nat) (w5 w6 : Option Value), L ≤ j + 4 * m → j ≤ 2060 → nc ≤ 59 + j → ns ≤ 672571 + 6 * j → LI I → mj_rn (mj_X0 L xs) (mj_hd []) (mj_call (mj_X0 L xs) mj_P (mj_bi (mj_X0 L xs)) (D + 10)) mb_196 23 [some (.ref 900000), some (.ref 0), some (.ref 36), some (.ref 58), some (.int (nI j)), w5, w6] [] (sh59, I, Lg, Rf, nc, ns) (fun o _ => o = .inl (some (.int 1))) := by
  have eL : Int32.ofNat (mj_X0 L xs).1.1 = nI L := rfl
  have fin : ∀ (j : Nat) (I : Nat → Nat → Int32) (Lg : Nat → Nat → Int64) (nc ns : Nat) (w5 w6 : Option Value), j ≤ 2060 → ¬ j + 4 ≤ L → mj_rn (mj_X0 L xs) (mj_hd []) (mj_call (mj_X0 L xs) mj_P (mj_bi (mj_X0 L xs)) (D + 10)) mb_196 23 [some (.ref 900000), some (.ref 0), some (.ref 36), some (.ref 58), some (.int (nI j)), w5, w6] [] (sh59, I, Lg, Rf, nc, ns) (fun o _ => o = .inl (some (.int 1))) := by
    intro j I Lg nc ns w5 w6 hj hno
    have hlt : nI L - 4 < nI j := by
      by_cases h4 : 4 ≤ L
      · rw [show nI L - 4 = nI (L - 4) from pk_sub h4]
        exact nI_lt (by omega) (by omega)
      · have h0 : ¬ nI j < 0 := nI_pos (by omega)
        have h1 : nI L - 4 < 0 := by
          rcases (show L = 0 ∨ L = 1 ∨ L = 2 ∨ L = 3 by omega) with rfl | rfl | rfl | rfl <;> decide
        exact Int32.lt_of_lt_of_le h1 (Int32.not_lt.mp h0)
    refine mj_blk rfl ?_
    simp +decide only [mjs_0, mjs_1, mjs_2, mjs_3, mjs_ble, true_and, Bool.false_eq_true, if_false, if_true, Nat.reduceAdd, Nat.reduceSub, Nat.reduceLeDiff, eL]
    refine ⟨fun _ => mj_blk rfl ?_, fun q => absurd hlt q⟩
    simp +decide only [mjs_0, mjs_1, mjs_2, mjs_3, mjs_ble, true_and, Bool.false_eq_true, if_false, if_true, Nat.reduceAdd, Nat.reduceSub, Nat.reduceLeDiff]
  intro m
  induction m with
  | zero =>
    intro j I Lg nc ns w5 w6 hm hj hnc hns hI
    exact fin j I Lg nc ns w5 w6 hj (by omega)
  | succ m ih =>
    intro j I Lg nc ns w5 w6 hm hj hnc hns hI
    by_cases h4 : j + 4 ≤ L
    case neg => exact fin j I Lg nc ns w5 w6 hj h4
    have hge : ¬ nI L - 4 < nI j := fun q => by
      rw [show nI L - 4 = nI (L - 4) from pk_sub (show 4 ≤ L by omega)] at q
      have := (nI_ltI (by omega) (by omega)).mp q
      omega
    have nx : ∀ (I : Nat → Nat → Int32) (Lg : Nat → Nat → Int64) (nc' ns' : Nat) (w5 w6 : Option Value), nc' ≤ nc + 1 → ns' ≤ ns + 6 → LI I → mj_rn (mj_X0 L xs) (mj_hd []) (mj_call (mj_X0 L xs) mj_P (mj_bi (mj_X0 L xs)) (D + 10)) mb_196 283 [some (.ref 900000), some (.ref 0), some (.ref 36), some (.ref 58), some (.int (nI j)), w5, w6] [] (sh59, I, Lg, Rf, nc', ns') (fun o _ => o = .inl (some (.int 1))) := by
      intro I Lg nc' ns' w5 w6 a1 a2 a3
      have e4 : nI j + 4 = nI (j + 4) := nI_add j 4
      refine mj_blk rfl ?_
      simp +decide only [mjs_0, mjs_1, mjs_2, mjs_3, mjs_ble, true_and, Bool.false_eq_true, if_false, if_true, Nat.reduceAdd, Nat.reduceSub, Nat.reduceLeDiff, e4]
      exact mj_nv (ih (j + 4) I Lg nc' ns' none none (by omega) (by omega) (by omega) (by omega) a3)
    have v0 : vp_in (nI j) (mj_X0 L xs).1.1 := nI_in (show j < L by omega) (show L < 2 ^ 31 by omega)
    have v1 : vp_in (nI j + 1) (mj_X0 L xs).1.1 := by
      rw [show nI j + 1 = nI (j + 1) from nI_add j 1]
      exact nI_in (show j + 1 < L by omega) (show L < 2 ^ 31 by omega)
    have v2 : vp_in (nI j + 2) (mj_X0 L xs).1.1 := by
      rw [show nI j + 2 = nI (j + 2) from nI_add j 2]
      exact nI_in (show j + 2 < L by omega) (show L < 2 ^ 31 by omega)
    have v3 : vp_in (nI j + 3) (mj_X0 L xs).1.1 := by
      rw [show nI j + 3 = nI (j + 3) from nI_add j 3]
      exact nI_in (show j + 3 < L by omega) (show L < 2 ^ 31 by omega)
    have hr' : nc + 1 ≤ 601024 ∧ ns + 6 ≤ 7293034 := by omega
    have hI0 := hI
    obtain ⟨vb, tk, n, tx, O, cn, hV, hC, hJ⟩ := hI
    refine mj_blk rfl ?_
    simp +decide only [mjs_0, mjs_1, mjs_2, mjs_3, mjs_ble, true_and, Bool.false_eq_true, if_false, if_true, Nat.reduceAdd, Nat.reduceSub, Nat.reduceLeDiff, eL]
    refine ⟨fun q => absurd q hge, fun _ => mj_blk rfl ?_⟩
    simp +decide only [mjs_0, mjs_1, mjs_2, mjs_3, mjs_ble, true_and, Bool.false_eq_true, if_false, if_true, Nat.reduceAdd, Nat.reduceSub, Nat.reduceLeDiff, v0]
    refine ⟨fun _ => mj_blk rfl ?_, fun _ => ⟨fun _ => mj_blk rfl ?_, fun _ => ⟨fun _ => mj_blk rfl ?_, fun _ => ⟨fun _ => mj_blk rfl ?_, fun _ => ⟨fun _ => mj_blk rfl ?_, fun _ => ⟨fun _ => mj_blk rfl ?_, fun _ => mj_nv (nx I Lg nc ns none none (by omega) (by omega) hI0)⟩⟩⟩⟩⟩⟩
    · simp +decide only [mjs_0, mjs_1, mjs_2, mjs_3, mjs_ble, true_and, Bool.false_eq_true, if_false, if_true, Nat.reduceAdd, Nat.reduceSub, Nat.reduceLeDiff, v1, v2, v3, mjs_rc s59_0]
      refine c_1x hR hC (fun hno => ?_) (fun k I' k1 k8 hk hn hC' => ?_)
      · simp +decide only [mjs_0, mjs_1, mjs_2, mjs_3, mjs_ble, true_and, Bool.false_eq_true, if_false, if_true, Nat.reduceAdd, Nat.reduceSub, Nat.reduceLeDiff, v1, v2, v3, mjs_rc s59_36]
        refine r_105x hM' hC.2.1.2.1 hJ (fun _ J' hJ' => ?_) (fun k J' k1 k8 hk hn _ => absurd ⟨k, k1, k8, hk, hn⟩ hno)
        simp +decide only [mjs_0, mjs_1, mjs_2, mjs_3, mjs_ble, true_and, Bool.false_eq_true, if_false, if_true, Nat.reduceAdd, Nat.reduceSub, Nat.reduceLeDiff]
        exact mj_nv (nx J' Lg nc ns none none (by omega) (by omega) (li_mk hV hC hJ'))
      · simp +decide only [mjs_0, mjs_1, mjs_2, mjs_3, mjs_ble, true_and, Bool.false_eq_true, if_false, if_true, Nat.reduceAdd, Nat.reduceSub, Nat.reduceLeDiff, v1, v2, v3, mjs_rc s59_36]
        refine r_105x hM' hC.2.1.2.1 (idr_c hC hJ hC') (fun hno => absurd ⟨k, k1, k8, hk, hn⟩ hno) (fun k' J' k1' k8' hk' hn' hJ' => ?_)
        have ek : k' = k := (nI_eq (by omega) (by omega)).mp (hk'.symm.trans hk)
        subst ek
        simp +decide only [mjs_0, mjs_1, mjs_2, mjs_3, mjs_ble, true_and, Bool.false_eq_true, if_false, if_true, Nat.reduceAdd, Nat.reduceSub, Nat.reduceLeDiff]
        exact mj_nv (nx J' Lg nc ns none none (by omega) (by omega) (li_mk hV hC' hJ'))
    · simp +decide only [mjs_0, mjs_1, mjs_2, mjs_3, mjs_ble, true_and, Bool.false_eq_true, if_false, if_true, Nat.reduceAdd, Nat.reduceSub, Nat.reduceLeDiff, v1]
      refine c_193x hR hM' hV hC hr' (by omega) (fun ht => ?_) (fun I' v lim st mm tk' O' cn' nc' ns' a1 a2 a3 a4 a5 a6 => ?_)
      · simp +decide only [mjs_0, mjs_1, mjs_2, mjs_3, mjs_ble, true_and, Bool.false_eq_true, if_false, if_true, Nat.reduceAdd, Nat.reduceSub, Nat.reduceLeDiff, v1, mjs_rc s59_36]
        refine r_178b hM' hJ ht (fun J' v hJ' => ?_)
        simp +decide only [mjs_0, mjs_1, mjs_2, mjs_3, mjs_ble, true_and, Bool.false_eq_true, if_false, if_true, Nat.reduceAdd, Nat.reduceSub, Nat.reduceLeDiff]
        exact mj_nv (nx J' Lg (nc + 1) (ns + 6) none none (by omega) (by omega) (li_mk hV hC hJ'))
      · simp +decide only [mjs_0, mjs_1, mjs_2, mjs_3, mjs_ble, true_and, Bool.false_eq_true, if_false, if_true, Nat.reduceAdd, Nat.reduceSub, Nat.reduceLeDiff, v1, mjs_rc s59_36, a2]
        refine r_178x hM' hV (idr_c hC hJ a5) a1 a6 (by omega) (fun J' v' hJ' => ?_)
        simp +decide only [mjs_0, mjs_1, mjs_2, mjs_3, mjs_ble, true_and, Bool.false_eq_true, if_false, if_true, Nat.reduceAdd, Nat.reduceSub, Nat.reduceLeDiff]
        exact mj_nv (nx J' _ nc' ns' none none a3 a4 (li_mk hV a5 hJ'))
    · simp +decide only [mjs_0, mjs_1, mjs_2, mjs_3, mjs_ble, true_and, Bool.false_eq_true, if_false, if_true, Nat.reduceAdd, Nat.reduceSub, Nat.reduceLeDiff, mjs_rc s59_0]
      refine c_3 hR ?_
      simp +decide only [mjs_0, mjs_1, mjs_2, mjs_3, mjs_ble, true_and, Bool.false_eq_true, if_false, if_true, Nat.reduceAdd, Nat.reduceSub, Nat.reduceLeDiff, mjs_rc s59_36]
      refine r_179x hM' hJ (fun J' hJ' => ?_)
      simp +decide only [mjs_0, mjs_1, mjs_2, mjs_3, mjs_ble, true_and, Bool.false_eq_true, if_false, if_true, Nat.reduceAdd, Nat.reduceSub, Nat.reduceLeDiff]
      exact mj_nv (nx J' Lg nc ns none none (by omega) (by omega) (li_mk hV hC hJ'))
    · simp +decide only [mjs_0, mjs_1, mjs_2, mjs_3, mjs_ble, true_and, Bool.false_eq_true, if_false, if_true, Nat.reduceAdd, Nat.reduceSub, Nat.reduceLeDiff, mjs_rc s59_0]
      refine c_4 hR ?_
      simp +decide only [mjs_0, mjs_1, mjs_2, mjs_3, mjs_ble, true_and, Bool.false_eq_true, if_false, if_true, Nat.reduceAdd, Nat.reduceSub, Nat.reduceLeDiff, mjs_rc s59_36]
      refine r_180x hM' hJ (fun J' hJ' => ?_)
      simp +decide only [mjs_0, mjs_1, mjs_2, mjs_3, mjs_ble, true_and, Bool.false_eq_true, if_false, if_true, Nat.reduceAdd, Nat.reduceSub, Nat.reduceLeDiff]
      exact mj_nv (nx J' Lg nc ns none none (by omega) (by omega) (li_mk hV hC hJ'))
    · simp +decide only [mjs_0, mjs_1, mjs_2, mjs_3, mjs_ble, true_and, Bool.false_eq_true, if_false, if_true, Nat.reduceAdd, Nat.reduceSub, Nat.reduceLeDiff, v1]
      refine c_194x hR hC hr' (fun ht => ?_) (fun k hk e => ?_)
      · simp +decide only [mjs_0, mjs_1, mjs_2, mjs_3, mjs_ble, true_and, Bool.false_eq_true, if_false, if_true, Nat.reduceAdd, Nat.reduceSub, Nat.reduceLeDiff, v1, mjs_rc s59_36]
        refine r_181x hM' hC.2.2.1.2 hJ (fun _ J' hJ' _ => ?_) (fun k hk e => absurd ⟨k, hk, e⟩ ht)
        simp +decide only [mjs_0, mjs_1, mjs_2, mjs_3, mjs_ble, true_and, Bool.false_eq_true, if_false, if_true, Nat.reduceAdd, Nat.reduceSub, Nat.reduceLeDiff]
        exact mj_nv (nx J' Lg (nc + 1) (ns + 6) none none (by omega) (by omega) (li_mk hV hC hJ'))
      · simp +decide only [mjs_0, mjs_1, mjs_2, mjs_3, mjs_ble, true_and, Bool.false_eq_true, if_false, if_true, Nat.reduceAdd, Nat.reduceSub, Nat.reduceLeDiff, v1, mjs_rc s59_36]
        refine r_181x hM' hC.2.2.1.2 hJ (fun hno => absurd ⟨k, hk, e⟩ hno) (fun k' hk' e' J' hJ' _ => ?_)
        simp +decide only [mjs_0, mjs_1, mjs_2, mjs_3, mjs_ble, true_and, Bool.false_eq_true, if_false, if_true, Nat.reduceAdd, Nat.reduceSub, Nat.reduceLeDiff]
        exact mj_nv (nx J' _ nc ns none none (by omega) (by omega) (li_mk hV hC hJ'))
    · simp +decide only [mjs_0, mjs_1, mjs_2, mjs_3, mjs_ble, true_and, Bool.false_eq_true, if_false, if_true, Nat.reduceAdd, Nat.reduceSub, Nat.reduceLeDiff, v1]
      refine c_195e hR hr' (fun ht => ?_) (fun k hk e => ?_)
      · simp +decide only [mjs_0, mjs_1, mjs_2, mjs_3, mjs_ble, true_and, Bool.false_eq_true, if_false, if_true, Nat.reduceAdd, Nat.reduceSub, Nat.reduceLeDiff, v1, mjs_rc s59_36]
        refine r_182x hM' hJ (fun _ J' hJ' h0 => ?_) (fun k hk e => ?_)
        · simp +decide only [mjs_0, mjs_1, mjs_2, mjs_3, mjs_ble, true_and, Bool.false_eq_true, if_false, if_true, Nat.reduceAdd, Nat.reduceSub, Nat.reduceLeDiff, mjs_rc s59_36]
          refine c_104 ?_
          simp +decide only [mjs_0, mjs_1, mjs_2, mjs_3, mjs_ble, true_and, Bool.false_eq_true, if_false, if_true, Nat.reduceAdd, Nat.reduceSub, Nat.reduceLeDiff, h0]
          refine ⟨fun _ => mj_blk rfl ?_, fun q => q.elim⟩
          simp +decide only [mjs_0, mjs_1, mjs_2, mjs_3, mjs_ble, true_and, Bool.false_eq_true, if_false, if_true, Nat.reduceAdd, Nat.reduceSub, Nat.reduceLeDiff]
          refine ⟨fun _ => mj_blk rfl ?_, fun q => q.elim⟩
          simp +decide only [mjs_0, mjs_1, mjs_2, mjs_3, mjs_ble, true_and, Bool.false_eq_true, if_false, if_true, Nat.reduceAdd, Nat.reduceSub, Nat.reduceLeDiff]
          exact mj_nv (nx J' Lg (nc + 1) (ns + 6) none none (by omega) (by omega) (li_mk hV hC hJ'))
        · rw [e] at ht
          rcases ht with h | h
          · exact absurd h (nI_pos (by omega))
          · exact absurd (show nI k ≤ nI 255 from nI_le hk (by decide)) h
      · simp +decide only [mjs_0, mjs_1, mjs_2, mjs_3, mjs_ble, true_and, Bool.false_eq_true, if_false, if_true, Nat.reduceAdd, Nat.reduceSub, Nat.reduceLeDiff, v1, mjs_rc s59_36]
        refine r_182x hM' hJ (fun h => ?_) (fun k' hk' e' J' hJ' h0 => ?_)
        · rw [e] at h
          rcases h with h | h
          · exact absurd h (nI_pos (by omega))
          · exact absurd (show nI k ≤ nI 255 from nI_le hk (by decide)) h
        · have ek : k' = k := (nI_eq (by omega) (by omega)).mp (e'.symm.trans e)
          subst ek
          have ecn := idc_cn hC (k := k') (by omega)
          simp +decide only [mjs_0, mjs_1, mjs_2, mjs_3, mjs_ble, true_and, Bool.false_eq_true, if_false, if_true, Nat.reduceAdd, Nat.reduceSub, Nat.reduceLeDiff, mjs_rc s59_36]
          refine c_104 ?_
          simp +decide only [mjs_0, mjs_1, mjs_2, mjs_3, mjs_ble, true_and, Bool.false_eq_true, if_false, if_true, Nat.reduceAdd, Nat.reduceSub, Nat.reduceLeDiff, h0]
          refine ⟨fun _ => mj_blk rfl ?_, fun q => q.elim⟩
          simp +decide only [mjs_0, mjs_1, mjs_2, mjs_3, mjs_ble, true_and, Bool.false_eq_true, if_false, if_true, Nat.reduceAdd, Nat.reduceSub, Nat.reduceLeDiff]
          refine ⟨fun q => q.elim, fun _ => mj_blk rfl ?_⟩
          simp +decide only [mjs_0, mjs_1, mjs_2, mjs_3, mjs_ble, true_and, Bool.false_eq_true, if_false, if_true, Nat.reduceAdd, Nat.reduceSub, Nat.reduceLeDiff, mjs_ar (t := 1) s59_58, n0_c, mjs_up_at, lg_self, ecn]
          refine ⟨by unfold vp_in; decide, fun _ => mj_blk rfl ?_, fun q => q.elim⟩
          simp +decide only [mjs_0, mjs_1, mjs_2, mjs_3, mjs_ble, true_and, Bool.false_eq_true, if_false, if_true, Nat.reduceAdd, Nat.reduceSub, Nat.reduceLeDiff]
          exact mj_nv (nx J' _ nc ns none none (by omega) (by omega) (li_mk hV hC hJ'))
theorem mj_all (hL : L ≤ 2048) : mj_rn (mj_X0 L xs) (mj_hd []) (mj_call (mj_X0 L xs) mj_P (mj_bi (mj_X0 L xs)) 2039) mb_196 0 (mj_en [.ref 900000] ++ List.replicate 6 none) [] mj_S0 (fun o _ => o = .inl (some (.int 1))) :=
  l_made (d := 2035) (fun I Lg Rf hR hM' hI => l_law (D := 2029) hL (by decide) hR hM' 512 0 I Lg 59 672571 none none (by omega) (by decide) (by decide) (by decide) hI)
end MJLW
