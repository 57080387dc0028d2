/-! THE TEXT AT ITS END, as the reference meets it; spaces dropped and '=' dropped, in both -/
section MJEN
variable {X : mj_X} {d nc ns : Nat} {Q : mj_Q} {I I' J J' H : Nat → Nat → Int32} {Lg : Nat → Nat → Int64} {Rf : Nat → Nat → Option Nat} {fb fb' : Nat → Nat → Int32} {vb : Nat → Int32} {K K' K'' : Nat × Nat × Nat} {P P' P'' : List Nat} {E : sgE} {N N' N'' : sgN} {S S' S'' : sgS} {M : sgM} {C C' C'' : sgC} {O : sgO} {L L' L'' : sgL} {t n kc kr : Nat}
theorem tl_0 (hl : tl L = 0) : L.1 = [] ∧ L.2.2.2.1 ≤ L.2.2.2.2 := by
  unfold tl at hl
  constructor
  · exact List.length_eq_zero_iff.mp (by omega)
  · by_cases q : L.2.2.2.2 < L.2.2.2.1
    · rw [if_pos q] at hl
      omega
    · omega
theorem re_116 (hM' : mj_Rt mm_R Rf) (hv : gv (K, [], E, N, S, M, C, O, L)) (hl : tl L = 0) : RS X Rf 5 116 [.ref 36] (K, [], E, N, S, M, C, O, L) (some (.int (-1))) (K, [], E, N, S, M, C, O, L) := by
  have hm := mm_rf hM'
  obtain ⟨hcur, hle⟩ := tl_0 hl
  obtain ⟨cur, st, v, n, nl⟩ := L
  have gL := (gv_d hv).2.2.2.2.2.2.2
  have hn : n ≤ 4000 := gL.1.1
  have hnl : nl ≤ 4001 := gL.1.2.1
  have hcur : cur = [] := hcur
  have hle : n ≤ nl := hle
  subst hcur
  intro H Lg d nc ns J Q hJ hq
  have j29 : J 36 29 = 0 := hJ.2.1.1
  obtain ⟨k1, k2, k3, ⟨lp, k4, k5, k6, k7⟩, ⟨ln, k8, k8'⟩, k9⟩ := hJ.2.2.2.2.2.2.2.2.1
  have k1 : J 36 1 = nI n := k1
  have k2 : J 36 5 = nI nl := k2
  have k5 : J 36 8 = nI lp := k5
  have k6 : lp ≤ 4001 := k6
  refine mj_enter (z := (1, [], mb_116)) (by decide) rfl rfl ?_
  refine mj_blk rfl ?_
  simp +decide only [mjs_0, mjs_1, mjs_2, mjs_3, mjs_ble, true_and, Bool.false_eq_true, if_false, if_true, Nat.reduceAdd, Nat.reduceSub, Nat.reduceLeDiff, false_implies, true_implies, not_false_eq_true, not_true_eq_false, and_true, mm_sh, hm, mjs_up_at, mjs_up_c, mjs_up_f, hJ.1.2.2.2]
  refine mj_blk rfl ?_
  simp +decide only [mjs_0, mjs_1, mjs_2, mjs_3, mjs_ble, true_and, Bool.false_eq_true, if_false, if_true, Nat.reduceAdd, Nat.reduceSub, Nat.reduceLeDiff, false_implies, true_implies, not_false_eq_true, not_true_eq_false, and_true, mm_sh, hm, mjs_up_at, mjs_up_c, mjs_up_f, j29]
  refine mj_blk rfl ?_
  simp +decide only [mjs_0, mjs_1, mjs_2, mjs_3, mjs_ble, true_and, Bool.false_eq_true, if_false, if_true, Nat.reduceAdd, Nat.reduceSub, Nat.reduceLeDiff, false_implies, true_implies, not_false_eq_true, not_true_eq_false, and_true, mm_sh, hm, mjs_up_at, mjs_up_c, mjs_up_f]
  refine mj_enter (z := (3, [], mb_115)) (by decide) rfl rfl ?_
  refine mj_blk rfl ?_
  simp +decide only [mjs_0, mjs_1, mjs_2, mjs_3, mjs_ble, true_and, Bool.false_eq_true, if_false, if_true, Nat.reduceAdd, Nat.reduceSub, Nat.reduceLeDiff, false_implies, true_implies, not_false_eq_true, not_true_eq_false, and_true, mm_sh, hm, mjs_up_at, mjs_up_c, mjs_up_f, k4, k5]
  refine mj_blk rfl ?_
  simp +decide only [mjs_0, mjs_1, mjs_2, mjs_3, mjs_ble, true_and, Bool.false_eq_true, if_false, if_true, Nat.reduceAdd, Nat.reduceSub, Nat.reduceLeDiff, false_implies, true_implies, not_false_eq_true, not_true_eq_false, and_true, mm_sh, hm, mjs_up_at, mjs_up_c, mjs_up_f]
  refine r_113 (mm_W hM') hn k1 k2 k8 (by dsimp only at k8'; omega) hnl (fun hle => ?_) (fun hlt => absurd hlt (by omega))
  simp +decide only [mjs_0, mjs_1, mjs_2, mjs_3, mjs_ble, true_and, Bool.false_eq_true, if_false, if_true, Nat.reduceAdd, Nat.reduceSub, Nat.reduceLeDiff, false_implies, true_implies, not_false_eq_true, not_true_eq_false, and_true, mm_sh, hm, mjs_up_at, mjs_up_c, mjs_up_f]
  refine mj_blk rfl ?_
  simp +decide only [mjs_0, mjs_1, mjs_2, mjs_3, mjs_ble, true_and, Bool.false_eq_true, if_false, if_true, Nat.reduceAdd, Nat.reduceSub, Nat.reduceLeDiff, false_implies, true_implies, not_false_eq_true, not_true_eq_false, and_true, mm_sh, hm, mjs_up_at, mjs_up_c, mjs_up_f]
  exact hq J hJ
theorem re_129 (hM' : mj_Rt mm_R Rf) (hv : gv (K, [], E, N, S, M, C, O, L)) (hl : tl L = 0) : RX X Rf 6 129 [.ref 36] (K, [], E, N, S, M, C, O, L) na (some (.int (-1))) (K, [], E, N, S, M, C, O, L) na := by
  have hm := mm_rf hM'
  refine rx_in (k := 5) (z := 2) (by decide) rfl rfl rfl ?_
  intro H Lg d nc ns J Q hJ hA hq
  refine mj_blk rfl ?_
  simp +decide only [mjs_0, mjs_1, mjs_2, mjs_3, mjs_ble, true_and, Bool.false_eq_true, if_false, if_true, Nat.reduceAdd, Nat.reduceSub, Nat.reduceLeDiff, false_implies, true_implies, not_false_eq_true, not_true_eq_false, and_true, mm_sh, hm, mjs_up_at, mjs_up_c, mjs_up_f]
  refine re_116 hM' hv hl H Lg d nc ns J _ hJ (fun J3 c3 => ?_)
  simp +decide only [mjs_0, mjs_1, mjs_2, mjs_3, mjs_ble, true_and, Bool.false_eq_true, if_false, if_true, Nat.reduceAdd, Nat.reduceSub, Nat.reduceLeDiff, false_implies, true_implies, not_false_eq_true, not_true_eq_false, and_true, mm_sh, hm, mjs_up_at, mjs_up_c, mjs_up_f]
  exact f_129e hM' (hq H J3 hx_rf c3 trivial)
theorem re_161 (hM' : mj_Rt mm_R Rf) (hv : gv (K, [], E, N, S, M, C, O, L)) (hl : tl L = 0) (hK : K.2.2 < 40) : RY X Rf 11 161 [.ref 36] (K, [], E, N, S, M, C, O, L) na (some (.int 0)) (K, [], E, N, S, M, C, O, L) := by
  have hm := mm_rf hM'
  have hv1 : gv ((K.1, K.2.1, K.2.2 + 1), [], E, N, S, M, C, O, L) := gv_K hv (em_vm (gv_d hv).2.1 (Nat.le_succ _))
  refine ry_161 (kk := 9) hM' hK (ry_in (k := 7 + 1) (z := 4) (by decide) rfl rfl rfl ?_)
  have h0 := ry_130e (k := 6) (by decide) (re_129 (X := X) hM' hv1 hl)
  intro H Lg d nc ns J Q hJ hA hq
  rw [show d + (7 + 1) = d + 1 + 7 by omega]
  refine mj_blk rfl ?_
  simp +decide only [mjs_0, mjs_1, mjs_2, mjs_3, mjs_ble, true_and, Bool.false_eq_true, if_false, if_true, Nat.reduceAdd, Nat.reduceSub, Nat.reduceLeDiff, false_implies, true_implies, not_false_eq_true, not_true_eq_false, and_true, mm_sh, hm, mjs_up_at, mjs_up_c, mjs_up_f]
  refine h0 H Lg (d + 1) nc ns J _ hJ trivial (fun J1 c1 => ?_)
  simp +decide only [mjs_0, mjs_1, mjs_2, mjs_3, mjs_ble, true_and, Bool.false_eq_true, if_false, if_true, Nat.reduceAdd, Nat.reduceSub, Nat.reduceLeDiff, false_implies, true_implies, not_false_eq_true, not_true_eq_false, and_true, mm_sh, hm, mjs_up_at, mjs_up_c, mjs_up_f]
  refine mj_blk rfl ?_
  simp +decide only [mjs_0, mjs_1, mjs_2, mjs_3, mjs_ble, true_and, Bool.false_eq_true, if_false, if_true, Nat.reduceAdd, Nat.reduceSub, Nat.reduceLeDiff, false_implies, true_implies, not_false_eq_true, not_true_eq_false, and_true, mm_sh, hm, mjs_up_at, mjs_up_c, mjs_up_f]
  refine r_121e ?_
  simp +decide only [mjs_0, mjs_1, mjs_2, mjs_3, mjs_ble, true_and, Bool.false_eq_true, if_false, if_true, Nat.reduceAdd, Nat.reduceSub, Nat.reduceLeDiff, false_implies, true_implies, not_false_eq_true, not_true_eq_false, and_true, mm_sh, hm, mjs_up_at, mjs_up_c, mjs_up_f]
  refine mj_blk rfl ?_
  simp +decide only [mjs_0, mjs_1, mjs_2, mjs_3, mjs_ble, true_and, Bool.false_eq_true, if_false, if_true, Nat.reduceAdd, Nat.reduceSub, Nat.reduceLeDiff, false_implies, true_implies, not_false_eq_true, not_true_eq_false, and_true, mm_sh, hm, mjs_up_at, mjs_up_c, mjs_up_f]
  refine r_120 (a := 12) (b := 43) ?_
  rw [if_neg (by decide)]
  simp +decide only [mjs_0, mjs_1, mjs_2, mjs_3, mjs_ble, true_and, Bool.false_eq_true, if_false, if_true, Nat.reduceAdd, Nat.reduceSub, Nat.reduceLeDiff, false_implies, true_implies, not_false_eq_true, not_true_eq_false, and_true, mm_sh, hm, mjs_up_at, mjs_up_c, mjs_up_f]
  refine mj_blk rfl ?_
  simp +decide only [mjs_0, mjs_1, mjs_2, mjs_3, mjs_ble, true_and, Bool.false_eq_true, if_false, if_true, Nat.reduceAdd, Nat.reduceSub, Nat.reduceLeDiff, false_implies, true_implies, not_false_eq_true, not_true_eq_false, and_true, mm_sh, hm, mjs_up_at, mjs_up_c, mjs_up_f]
  refine r_120 (a := 12) (b := 45) ?_
  rw [if_neg (by decide)]
  simp +decide only [mjs_0, mjs_1, mjs_2, mjs_3, mjs_ble, true_and, Bool.false_eq_true, if_false, if_true, Nat.reduceAdd, Nat.reduceSub, Nat.reduceLeDiff, false_implies, true_implies, not_false_eq_true, not_true_eq_false, and_true, mm_sh, hm, mjs_up_at, mjs_up_c, mjs_up_f]
  refine mj_blk rfl ?_
  simp +decide only [mjs_0, mjs_1, mjs_2, mjs_3, mjs_ble, true_and, Bool.false_eq_true, if_false, if_true, Nat.reduceAdd, Nat.reduceSub, Nat.reduceLeDiff, false_implies, true_implies, not_false_eq_true, not_true_eq_false, and_true, mm_sh, hm, mjs_up_at, mjs_up_c, mjs_up_f]
  refine ⟨fun q => absurd q (rd_nle c1), fun _ => mj_blk rfl ?_⟩
  simp +decide only [mjs_0, mjs_1, mjs_2, mjs_3, mjs_ble, true_and, Bool.false_eq_true, if_false, if_true, Nat.reduceAdd, Nat.reduceSub, Nat.reduceLeDiff, false_implies, true_implies, not_false_eq_true, not_true_eq_false, and_true, mm_sh, hm, mjs_up_at, mjs_up_c, mjs_up_f]
  exact hq J1 c1
theorem re_155 (hM' : mj_Rt mm_R Rf) (hv : gv (K, [], E, N, S, M, C, O, L)) (hl : tl L = 0) (hK : K.2.2 < 40) {most : Int32} : RY X Rf 12 155 [.ref 36, .int most] (K, [], E, N, S, M, C, O, L) na (some (.int 0)) (K, [], E, N, S, M, C, O, L) := by
  have hm := mm_rf hM'
  refine ry_in (k := 11) (z := 3) (by decide) rfl rfl rfl ?_
  intro H Lg d nc ns J Q hJ hA hq
  refine mj_blk rfl ?_
  simp +decide only [mjs_0, mjs_1, mjs_2, mjs_3, mjs_ble, true_and, Bool.false_eq_true, if_false, if_true, Nat.reduceAdd, Nat.reduceSub, Nat.reduceLeDiff, false_implies, true_implies, not_false_eq_true, not_true_eq_false, and_true, mm_sh, hm, mjs_up_at, mjs_up_c, mjs_up_f]
  refine re_161 hM' hv hl hK H Lg d nc ns J _ hJ trivial (fun J1 c1 => ?_)
  simp +decide only [mjs_0, mjs_1, mjs_2, mjs_3, mjs_ble, true_and, Bool.false_eq_true, if_false, if_true, Nat.reduceAdd, Nat.reduceSub, Nat.reduceLeDiff, false_implies, true_implies, not_false_eq_true, not_true_eq_false, and_true, mm_sh, hm, mjs_up_at, mjs_up_c, mjs_up_f]
  refine ⟨fun _ => mj_blk rfl ?_, fun q => absurd (rd_ne c1) q⟩
  simp +decide only [mjs_0, mjs_1, mjs_2, mjs_3, mjs_ble, true_and, Bool.false_eq_true, if_false, if_true, Nat.reduceAdd, Nat.reduceSub, Nat.reduceLeDiff, false_implies, true_implies, not_false_eq_true, not_true_eq_false, and_true, mm_sh, hm, mjs_up_at, mjs_up_c, mjs_up_f]
  refine ⟨fun q => absurd q (rd_nle c1), fun _ => mj_blk rfl ?_⟩
  simp +decide only [mjs_0, mjs_1, mjs_2, mjs_3, mjs_ble, true_and, Bool.false_eq_true, if_false, if_true, Nat.reduceAdd, Nat.reduceSub, Nat.reduceLeDiff, false_implies, true_implies, not_false_eq_true, not_true_eq_false, and_true, mm_sh, hm, mjs_up_at, mjs_up_c, mjs_up_f]
  refine mj_blk rfl ?_
  simp +decide only [mjs_0, mjs_1, mjs_2, mjs_3, mjs_ble, true_and, Bool.false_eq_true, if_false, if_true, Nat.reduceAdd, Nat.reduceSub, Nat.reduceLeDiff, false_implies, true_implies, not_false_eq_true, not_true_eq_false, and_true, mm_sh, hm, mjs_up_at, mjs_up_c, mjs_up_f]
  exact hq J1 c1
/-- expandedBehindSpaces against a loop of the reference's own -/
theorem p_23g (hR : mj_Rt mp_R Rf) (hX : XD X Rf vb kc kr n) {T : List mj_B} {k p : Nat} {lv : Int32 → mj_LV} {pc0 : Nat} {lv0 : mj_LV} {o : Option Value} {g0 : sg}
    (hs : ∀ (g g' : sg) (k' t : Nat) (x : Int32), k' ≤ 1036 → 36 ≤ k' → tv k' t → t / 256 = 10 → RX X Rf kr 129 [.ref 36] g na (some (.int x)) g' na → RM X Rf T k p (lv (nI (rt t))) [] g na p (lv x) [] g' na)
    (hf : ∀ (g g' : sg) (k' t : Nat), k' ≤ 1036 → 36 ≤ k' → tv k' t → t / 256 = 10 → RY X Rf kr 129 [.ref 36] g na (some (.int (-1))) g' → RMf X Rf T k p (lv (nI (rt t))) [] g na o g')
    {D : Nat} (hD : kc + 4 ≤ D) (hn : K.2.2 + n = 40) (hr' : nc + 1 ≤ X.2.2.1 ∧ ns + 6 ≤ X.2.2.2) (hv : gv (K, P, E, N, S, M, C, O, L)) (hw : gw K S) (hp : P.length ≤ 10000) (h : RC fb vb (K, P, E, N, S, M, C, O, L) I)
    (h0s : ∀ (g' : sg) (x : Int32), RX X Rf kr 129 [.ref 36] (K, P, E, N, S, M, C, O, L) na (some (.int x)) g' na → RM X Rf T k pc0 lv0 [] g0 na p (lv x) [] g' na)
    (h0f : ∀ (g' : sg), RY X Rf kr 129 [.ref 36] (K, P, E, N, S, M, C, O, L) na (some (.int (-1))) g' → RMf X Rf T k pc0 lv0 [] g0 na o g')
    (hQ1 : ∀ fb' K' P' N' S' C' L' I' t, gv (K', P', E, N', S', M, C', O, L') → RC fb' vb (K', P', E, N', S', M, C', O, L') I' → P'.length ≤ 9999 → xs K P N S C L K' P' N' S' C' L' → mu K' P' L' < mu K P L → tv N'.2.2 t → ¬ gx S' t → t / 256 ≠ 10 → RM X Rf T k pc0 lv0 [] g0 na p (lv (nI (rt t))) [] (K', P', E, N', S', M, C', O, L') na → Q (.inl (some (.int (nI t)))) (sh59, I', Lg, Rf, nc, ns))
    (hQE : ∀ K' N' S' C' L' I', RCf fb vb (K', [], E, N', S', M, C', O, L') I' → tl L' = 0 → gv (K', [], E, N', S', M, C', O, L') → K'.2 = K.2 → RM X Rf T k pc0 lv0 [] g0 na p (lv (-1)) [] (K', [], E, N', S', M, C', O, L') na → Q (.inr 500) (sh59, I', Lg, Rf, nc + 1, ns + 6))
    (hQ3 : ∀ g' I', RCf fb vb g' I' → RMf X Rf T k pc0 lv0 [] g0 na o g' → Q (.inr 500) (sh59, I', Lg, Rf, nc + 1, ns + 6)) :
    mj_call X mj_P (mj_bi X) D 23 [.ref 28] (sh59, I, Lg, Rf, nc, ns) Q := by
  have hr := mc_rf hR
  obtain ⟨d, rfl⟩ : ∃ d, D = d + 4 := ⟨D - 4, by omega⟩
  have k5 := (rc_d h).1.2.2.2
  have hmu0 := mu_le (K := K) (P := P) (L := L) k5.2.1 hp (tl_le (gv_d hv).2.2.2.2.2.2.2)
  have loop : ∀ (m i t : Nat) (fb' : Nat → Nat → Int32) (K' : Nat × Nat × Nat) (P' : List Nat) (N' : sgN) (S' : sgS) (C' : sgC) (L' : sgL) (I' : Nat → Nat → Int32), mu K' P' L' ≤ m → i + m ≤ 700000000 → gv (K', P', E, N', S', M, C', O, L') → RC fb' vb (K', P', E, N', S', M, C', O, L') I' → P'.length ≤ 9999 → xs K P N S C L K' P' N' S' C' L' → mu K' P' L' < mu K P L → tv N'.2.2 t → ¬ gx S' t → RM X Rf T k pc0 lv0 [] g0 na p (lv (nI (rt t))) [] (K', P', E, N', S', M, C', O, L') na → mj_rn X (mj_hd []) (mj_call X mj_P (mj_bi X) (d + 3)) mb_23 8 [some (.ref 28), some (.int (nI t)), some (.int (nI i))] [] (sh59, I', Lg, Rf, nc, ns) Q := by
    intro m
    induction m using Nat.strongRecOn with
    | ind m ih =>
      intro i t fb' K' P' N' S' C' L' I' b1 b2 hv' h' hp' hx hmu ht hgx hM
      have hk : N'.2.2 ≤ 1036 := (gv_d hv').2.2.1.2.1
      have hk1 : 36 ≤ N'.2.2 := (gv_d hv').2.2.1.1
      have htl := tv_lt hk ht
      have hgw := gw_xs hw hx
      have hK2 := hx.2.1.2
      refine mj_blk rfl ?_
      simp +decide only [mjs_0, mjs_1, mjs_2, mjs_3, mjs_ble, true_and, Bool.false_eq_true, if_false, if_true, Nat.reduceAdd, Nat.reduceSub, Nat.reduceLeDiff, false_implies, true_implies, not_false_eq_true, not_true_eq_false, and_true]
      refine ⟨fun q => absurd q (nI_ge (a := i) (b := 1000000000) (by omega) (by decide)), fun _ => mj_blk rfl ?_⟩
      simp +decide only [mjs_0, mjs_1, mjs_2, mjs_3, mjs_ble, true_and, Bool.false_eq_true, if_false, if_true, Nat.reduceAdd, Nat.reduceSub, Nat.reduceLeDiff, false_implies, true_implies, not_false_eq_true, not_true_eq_false, and_true]
      refine c_190 (by omega) ?_
      by_cases e : t / 256 = 10
      · rw [if_pos e]
        simp +decide only [mjs_0, mjs_1, mjs_2, mjs_3, mjs_ble, true_and, Bool.false_eq_true, if_false, if_true, Nat.reduceAdd, Nat.reduceSub, Nat.reduceLeDiff, false_implies, true_implies, not_false_eq_true, not_true_eq_false, and_true]
        refine mj_blk rfl ?_
        simp +decide only [mjs_0, mjs_1, mjs_2, mjs_3, mjs_ble, true_and, Bool.false_eq_true, if_false, if_true, Nat.reduceAdd, Nat.reduceSub, Nat.reduceLeDiff, false_implies, true_implies, not_false_eq_true, not_true_eq_false, and_true, mc_sh]
        refine hX fb' K' P' E N' S' M C' O L' 0 nc ns Lg I' _ _ (by omega) (by rw [hK2]; exact hn) hr' hv' hgw (by omega) (Or.inl rfl) h' (fun fb2 K2 P2 N2 S2 C2 L2 I2 t2 a1 a2 a3 a4 a5 a6 a7 a8 => ?_) (fun e1 => absurd e1 (by decide)) (fun g2 I2 a1 a2 _ => ?_)
        · simp +decide only [mjs_0, mjs_1, mjs_2, mjs_3, mjs_ble, true_and, Bool.false_eq_true, if_false, if_true, Nat.reduceAdd, Nat.reduceSub, Nat.reduceLeDiff, false_implies, true_implies, not_false_eq_true, not_true_eq_false, and_true, nI_1]
          exact mj_nv (ih (mu K2 P2 L2) (by omega) (i + 1) t2 fb2 K2 P2 N2 S2 C2 L2 I2 (Nat.le_refl _) (by omega) a1 a2 a3 (xs_tr hx a4) (by omega) a6 a7 (rm_tr hM (hs _ _ _ t _ hk hk1 ht e a8)))
        · simp +decide only [mjs_0, mjs_1, mjs_2, mjs_3, mjs_ble, true_and, Bool.false_eq_true, if_false, if_true, Nat.reduceAdd, Nat.reduceSub, Nat.reduceLeDiff, false_implies, true_implies, not_false_eq_true, not_true_eq_false, and_true]
          rcases a2 with a2 | ⟨-, K2, N2, S2, C2, L2, rfl, e2, e3, e4, a2⟩
          · exact hQ3 g2 I2 a1 (rm_f hM (hf _ _ _ t hk hk1 ht e a2))
          · exact hQE K2 N2 S2 C2 L2 I2 a1 e2 e3 (e4.trans hK2) (rm_tr hM (hs _ _ _ t _ hk hk1 ht e a2))
      · rw [if_neg e]
        simp +decide only [mjs_0, mjs_1, mjs_2, mjs_3, mjs_ble, true_and, Bool.false_eq_true, if_false, if_true, Nat.reduceAdd, Nat.reduceSub, Nat.reduceLeDiff, false_implies, true_implies, not_false_eq_true, not_true_eq_false, and_true]
        refine mj_blk rfl ?_
        simp +decide only [mjs_0, mjs_1, mjs_2, mjs_3, mjs_ble, true_and, Bool.false_eq_true, if_false, if_true, Nat.reduceAdd, Nat.reduceSub, Nat.reduceLeDiff, false_implies, true_implies, not_false_eq_true, not_true_eq_false, and_true]
        exact hQ1 fb' K' P' N' S' C' L' I' t hv' h' hp' hx hmu ht hgx e hM
  refine mj_enter (z := (3, [], mb_23)) (by decide) rfl rfl ?_
  refine mj_blk rfl ?_
  simp +decide only [mjs_0, mjs_1, mjs_2, mjs_3, mjs_ble, true_and, Bool.false_eq_true, if_false, if_true, Nat.reduceAdd, Nat.reduceSub, Nat.reduceLeDiff, false_implies, true_implies, not_false_eq_true, not_true_eq_false, and_true, mc_sh, hr, mjs_up_at, mjs_up_c, mjs_up_f]
  refine hX fb K P E N S M C O L 0 nc ns Lg I _ _ (by omega) hn hr' hv hw hp (Or.inl rfl) h (fun fb2 K2 P2 N2 S2 C2 L2 I2 t2 a1 a2 a3 a4 a5 a6 a7 a8 => ?_) (fun e1 => absurd e1 (by decide)) (fun g2 I2 a1 a2 _ => ?_)
  · simp +decide only [mjs_0, mjs_1, mjs_2, mjs_3, mjs_ble, true_and, Bool.false_eq_true, if_false, if_true, Nat.reduceAdd, Nat.reduceSub, Nat.reduceLeDiff, false_implies, true_implies, not_false_eq_true, not_true_eq_false, and_true]
    exact mj_nv (loop (mu K2 P2 L2) 0 t2 fb2 K2 P2 N2 S2 C2 L2 I2 (Nat.le_refl _) (by omega) a1 a2 a3 a4 a5 a6 a7 (h0s _ _ a8))
  · simp +decide only [mjs_0, mjs_1, mjs_2, mjs_3, mjs_ble, true_and, Bool.false_eq_true, if_false, if_true, Nat.reduceAdd, Nat.reduceSub, Nat.reduceLeDiff, false_implies, true_implies, not_false_eq_true, not_true_eq_false, and_true]
    rcases a2 with a2 | ⟨-, K2, N2, S2, C2, L2, rfl, e2, e3, e4, a2⟩
    · exact hQ3 g2 I2 a1 (h0f _ a2)
    · exact hQE K2 N2 S2 C2 L2 I2 a1 e2 e3 e4 (h0s _ _ a2)
/-- dropEquals; at the end of the text the class faults, the reference comes back -/
theorem p_70 (hR : mj_Rt mp_R Rf) (hM' : mj_Rt mm_R Rf) (hX : XD X Rf vb kc kr n) {D : Nat} (hD : kc + 5 ≤ D) (hn : K.2.2 + n = 40) (hr' : nc + 1 ≤ X.2.2.1 ∧ ns + 6 ≤ X.2.2.2) (hv : gv (K, P, E, N, S, M, C, O, L)) (hw : gw K S) (hp : P.length ≤ 10000) (h : RC fb vb (K, P, E, N, S, M, C, O, L) I)
    (hQ1 : ∀ fb' K' P' N' S' C' L' I', gv (K', P', E, N', S', M, C', O, L') → RC fb' vb (K', P', E, N', S', M, C', O, L') I' → P'.length ≤ 10000 → xs K P N S C L K' P' N' S' C' L' → RX X Rf (kr + 4) 172 [.ref 36] (K, P, E, N, S, M, C, O, L) na none (K', P', E, N', S', M, C', O, L') na → Q (.inl none) (sh59, I', Lg, Rf, nc, ns))
    (hQE : ∀ K' N' S' C' L' I', RCf fb vb (K', [], E, N', S', M, C', O, L') I' → tl L' = 0 → gv (K', [], E, N', S', M, C', O, L') → K'.2 = K.2 → RX X Rf (kr + 4) 172 [.ref 36] (K, P, E, N, S, M, C, O, L) na none (K', [], E, N', S', M, C', O, L') na → Q (.inr 500) (sh59, I', Lg, Rf, nc + 1, ns + 6))
    (hQ3 : ∀ g' I', RCf fb vb g' I' → RY X Rf (kr + 4) 172 [.ref 36] (K, P, E, N, S, M, C, O, L) na none g' → Q (.inr 500) (sh59, I', Lg, Rf, nc + 1, ns + 6)) :
    mj_call X mj_P (mj_bi X) D 70 [.ref 34] (sh59, I, Lg, Rf, nc, ns) Q := by
  have hr := mc_rf hR
  have hm := mm_rf hM'
  obtain ⟨d, rfl⟩ : ∃ d, D = d + 5 := ⟨D - 5, by omega⟩
  refine mj_enter (z := (2, [], mb_70)) (by decide) rfl rfl ?_
  refine mj_blk rfl ?_
  simp +decide only [mjs_0, mjs_1, mjs_2, mjs_3, mjs_ble, true_and, Bool.false_eq_true, if_false, if_true, Nat.reduceAdd, Nat.reduceSub, Nat.reduceLeDiff, false_implies, true_implies, not_false_eq_true, not_true_eq_false, and_true, mc_sh, hr, mjs_up_at, mjs_up_c, mjs_up_f]
  refine p_23g (T := mb_172) (k := kr + 3) (p := 5) (lv := fun x => [some (.ref 36), some (.int x)]) (pc0 := 0) (lv0 := [some (.ref 36), none]) (o := none) (g0 := (K, P, E, N, S, M, C, O, L)) hR hX ?_ ?_ (by omega) hn hr' hv hw hp h ?_ ?_ (fun fb' K' P' N' S' C' L' I' t a1 a2 a3 a4 a5 a6 a7 a8 a9 => ?_) (fun K' N' S' C' L' I' a1 a2 a3 a5 a4 => ?_) (fun g' I' a1 a2 => ?_)
  · intro g g' k' t x e1 e2 ht e a8
    intro H Lg d nc ns J Q hJ hA hq
    obtain ⟨D, hD, hDk⟩ : ∃ D, d + (kr + 3) = D + 3 ∧ kr ≤ D := ⟨d + kr, by omega, by omega⟩
    rw [hD]
    try rw [hD] at hq
    refine mj_blk rfl ?_
    simp +decide only [mjs_0, mjs_1, mjs_2, mjs_3, mjs_ble, true_and, Bool.false_eq_true, if_false, if_true, Nat.reduceAdd, Nat.reduceSub, Nat.reduceLeDiff, false_implies, true_implies, not_false_eq_true, not_true_eq_false, and_true, mm_sh, hm, mjs_up_at, mjs_up_c, mjs_up_f]
    refine rq_121 (c := 10) e1 e2 ht (by decide) (fun _ => ?_) (fun e1 => absurd ((cg_10 ht).mp e) e1)
    simp +decide only [mjs_0, mjs_1, mjs_2, mjs_3, mjs_ble, true_and, Bool.false_eq_true, if_false, if_true, Nat.reduceAdd, Nat.reduceSub, Nat.reduceLeDiff, false_implies, true_implies, not_false_eq_true, not_true_eq_false, and_true, mm_sh, hm, mjs_up_at, mjs_up_c, mjs_up_f]
    refine mj_blk rfl ?_
    simp +decide only [mjs_0, mjs_1, mjs_2, mjs_3, mjs_ble, true_and, Bool.false_eq_true, if_false, if_true, Nat.reduceAdd, Nat.reduceSub, Nat.reduceLeDiff, false_implies, true_implies, not_false_eq_true, not_true_eq_false, and_true, mm_sh, hm, mjs_up_at, mjs_up_c, mjs_up_f]
    refine rx_at a8 (by omega) hJ trivial (fun H1 J1 c1 c2 _ => ?_)
    simp +decide only [mjs_0, mjs_1, mjs_2, mjs_3, mjs_ble, true_and, Bool.false_eq_true, if_false, if_true, Nat.reduceAdd, Nat.reduceSub, Nat.reduceLeDiff, false_implies, true_implies, not_false_eq_true, not_true_eq_false, and_true, mm_sh, hm, mjs_up_at, mjs_up_c, mjs_up_f]
    exact mj_nv (hq H1 J1 c1 c2 trivial)
  · intro g g' k' t e1 e2 ht e a8
    intro H Lg d nc ns J Q hJ hA hq
    obtain ⟨D, hD, hDk⟩ : ∃ D, d + (kr + 3) = D + 3 ∧ kr ≤ D := ⟨d + kr, by omega, by omega⟩
    rw [hD]
    try rw [hD] at hq
    refine mj_blk rfl ?_
    simp +decide only [mjs_0, mjs_1, mjs_2, mjs_3, mjs_ble, true_and, Bool.false_eq_true, if_false, if_true, Nat.reduceAdd, Nat.reduceSub, Nat.reduceLeDiff, false_implies, true_implies, not_false_eq_true, not_true_eq_false, and_true, mm_sh, hm, mjs_up_at, mjs_up_c, mjs_up_f]
    refine rq_121 (c := 10) e1 e2 ht (by decide) (fun _ => ?_) (fun e1 => absurd ((cg_10 ht).mp e) e1)
    simp +decide only [mjs_0, mjs_1, mjs_2, mjs_3, mjs_ble, true_and, Bool.false_eq_true, if_false, if_true, Nat.reduceAdd, Nat.reduceSub, Nat.reduceLeDiff, false_implies, true_implies, not_false_eq_true, not_true_eq_false, and_true, mm_sh, hm, mjs_up_at, mjs_up_c, mjs_up_f]
    refine mj_blk rfl ?_
    simp +decide only [mjs_0, mjs_1, mjs_2, mjs_3, mjs_ble, true_and, Bool.false_eq_true, if_false, if_true, Nat.reduceAdd, Nat.reduceSub, Nat.reduceLeDiff, false_implies, true_implies, not_false_eq_true, not_true_eq_false, and_true, mm_sh, hm, mjs_up_at, mjs_up_c, mjs_up_f]
    refine ry_at a8 (by omega) hJ trivial (fun J1 c1 => ?_)
    simp +decide only [mjs_0, mjs_1, mjs_2, mjs_3, mjs_ble, true_and, Bool.false_eq_true, if_false, if_true, Nat.reduceAdd, Nat.reduceSub, Nat.reduceLeDiff, false_implies, true_implies, not_false_eq_true, not_true_eq_false, and_true, mm_sh, hm, mjs_up_at, mjs_up_c, mjs_up_f]
    refine mj_blk rfl ?_
    simp +decide only [mjs_0, mjs_1, mjs_2, mjs_3, mjs_ble, true_and, Bool.false_eq_true, if_false, if_true, Nat.reduceAdd, Nat.reduceSub, Nat.reduceLeDiff, false_implies, true_implies, not_false_eq_true, not_true_eq_false, and_true, mm_sh, hm, mjs_up_at, mjs_up_c, mjs_up_f]
    refine r_121e ?_
    simp +decide only [mjs_0, mjs_1, mjs_2, mjs_3, mjs_ble, true_and, Bool.false_eq_true, if_false, if_true, Nat.reduceAdd, Nat.reduceSub, Nat.reduceLeDiff, false_implies, true_implies, not_false_eq_true, not_true_eq_false, and_true, mm_sh, hm, mjs_up_at, mjs_up_c, mjs_up_f]
    refine mj_blk rfl ?_
    simp +decide only [mjs_0, mjs_1, mjs_2, mjs_3, mjs_ble, true_and, Bool.false_eq_true, if_false, if_true, Nat.reduceAdd, Nat.reduceSub, Nat.reduceLeDiff, false_implies, true_implies, not_false_eq_true, not_true_eq_false, and_true, mm_sh, hm, mjs_up_at, mjs_up_c, mjs_up_f]
    refine r_120 (a := 12) (b := 61) ?_
    rw [if_neg (by decide)]
    simp +decide only [mjs_0, mjs_1, mjs_2, mjs_3, mjs_ble, true_and, Bool.false_eq_true, if_false, if_true, Nat.reduceAdd, Nat.reduceSub, Nat.reduceLeDiff, false_implies, true_implies, not_false_eq_true, not_true_eq_false, and_true, mm_sh, hm, mjs_up_at, mjs_up_c, mjs_up_f]
    refine mj_blk rfl ?_
    simp +decide only [mjs_0, mjs_1, mjs_2, mjs_3, mjs_ble, true_and, Bool.false_eq_true, if_false, if_true, Nat.reduceAdd, Nat.reduceSub, Nat.reduceLeDiff, false_implies, true_implies, not_false_eq_true, not_true_eq_false, and_true, mm_sh, hm, mjs_up_at, mjs_up_c, mjs_up_f]
    refine r_118e ?_
    simp +decide only [mjs_0, mjs_1, mjs_2, mjs_3, mjs_ble, true_and, Bool.false_eq_true, if_false, if_true, Nat.reduceAdd, Nat.reduceSub, Nat.reduceLeDiff, false_implies, true_implies, not_false_eq_true, not_true_eq_false, and_true, mm_sh, hm, mjs_up_at, mjs_up_c, mjs_up_f]
    refine mj_blk rfl ?_
    simp +decide only [mjs_0, mjs_1, mjs_2, mjs_3, mjs_ble, true_and, Bool.false_eq_true, if_false, if_true, Nat.reduceAdd, Nat.reduceSub, Nat.reduceLeDiff, false_implies, true_implies, not_false_eq_true, not_true_eq_false, and_true, mm_sh, hm, mjs_up_at, mjs_up_c, mjs_up_f]
    exact hq J1 c1
  · intro g' x a8
    intro H Lg d nc ns J Q hJ hA hq
    obtain ⟨D, hD, hDk⟩ : ∃ D, d + (kr + 3) = D + 3 ∧ kr ≤ D := ⟨d + kr, by omega, by omega⟩
    rw [hD]
    try rw [hD] at hq
    refine mj_blk rfl ?_
    simp +decide only [mjs_0, mjs_1, mjs_2, mjs_3, mjs_ble, true_and, Bool.false_eq_true, if_false, if_true, Nat.reduceAdd, Nat.reduceSub, Nat.reduceLeDiff, false_implies, true_implies, not_false_eq_true, not_true_eq_false, and_true, mm_sh, hm, mjs_up_at, mjs_up_c, mjs_up_f]
    refine rx_at a8 (by omega) hJ trivial (fun H1 J1 c1 c2 _ => ?_)
    simp +decide only [mjs_0, mjs_1, mjs_2, mjs_3, mjs_ble, true_and, Bool.false_eq_true, if_false, if_true, Nat.reduceAdd, Nat.reduceSub, Nat.reduceLeDiff, false_implies, true_implies, not_false_eq_true, not_true_eq_false, and_true, mm_sh, hm, mjs_up_at, mjs_up_c, mjs_up_f]
    exact mj_nv (hq H1 J1 c1 c2 trivial)
  · intro g' a8
    intro H Lg d nc ns J Q hJ hA hq
    obtain ⟨D, hD, hDk⟩ : ∃ D, d + (kr + 3) = D + 3 ∧ kr ≤ D := ⟨d + kr, by omega, by omega⟩
    rw [hD]
    try rw [hD] at hq
    refine mj_blk rfl ?_
    simp +decide only [mjs_0, mjs_1, mjs_2, mjs_3, mjs_ble, true_and, Bool.false_eq_true, if_false, if_true, Nat.reduceAdd, Nat.reduceSub, Nat.reduceLeDiff, false_implies, true_implies, not_false_eq_true, not_true_eq_false, and_true, mm_sh, hm, mjs_up_at, mjs_up_c, mjs_up_f]
    refine ry_at a8 (by omega) hJ trivial (fun J1 c1 => ?_)
    simp +decide only [mjs_0, mjs_1, mjs_2, mjs_3, mjs_ble, true_and, Bool.false_eq_true, if_false, if_true, Nat.reduceAdd, Nat.reduceSub, Nat.reduceLeDiff, false_implies, true_implies, not_false_eq_true, not_true_eq_false, and_true, mm_sh, hm, mjs_up_at, mjs_up_c, mjs_up_f]
    refine mj_blk rfl ?_
    simp +decide only [mjs_0, mjs_1, mjs_2, mjs_3, mjs_ble, true_and, Bool.false_eq_true, if_false, if_true, Nat.reduceAdd, Nat.reduceSub, Nat.reduceLeDiff, false_implies, true_implies, not_false_eq_true, not_true_eq_false, and_true, mm_sh, hm, mjs_up_at, mjs_up_c, mjs_up_f]
    refine r_121e ?_
    simp +decide only [mjs_0, mjs_1, mjs_2, mjs_3, mjs_ble, true_and, Bool.false_eq_true, if_false, if_true, Nat.reduceAdd, Nat.reduceSub, Nat.reduceLeDiff, false_implies, true_implies, not_false_eq_true, not_true_eq_false, and_true, mm_sh, hm, mjs_up_at, mjs_up_c, mjs_up_f]
    refine mj_blk rfl ?_
    simp +decide only [mjs_0, mjs_1, mjs_2, mjs_3, mjs_ble, true_and, Bool.false_eq_true, if_false, if_true, Nat.reduceAdd, Nat.reduceSub, Nat.reduceLeDiff, false_implies, true_implies, not_false_eq_true, not_true_eq_false, and_true, mm_sh, hm, mjs_up_at, mjs_up_c, mjs_up_f]
    refine r_120 (a := 12) (b := 61) ?_
    rw [if_neg (by decide)]
    simp +decide only [mjs_0, mjs_1, mjs_2, mjs_3, mjs_ble, true_and, Bool.false_eq_true, if_false, if_true, Nat.reduceAdd, Nat.reduceSub, Nat.reduceLeDiff, false_implies, true_implies, not_false_eq_true, not_true_eq_false, and_true, mm_sh, hm, mjs_up_at, mjs_up_c, mjs_up_f]
    refine mj_blk rfl ?_
    simp +decide only [mjs_0, mjs_1, mjs_2, mjs_3, mjs_ble, true_and, Bool.false_eq_true, if_false, if_true, Nat.reduceAdd, Nat.reduceSub, Nat.reduceLeDiff, false_implies, true_implies, not_false_eq_true, not_true_eq_false, and_true, mm_sh, hm, mjs_up_at, mjs_up_c, mjs_up_f]
    refine r_118e ?_
    simp +decide only [mjs_0, mjs_1, mjs_2, mjs_3, mjs_ble, true_and, Bool.false_eq_true, if_false, if_true, Nat.reduceAdd, Nat.reduceSub, Nat.reduceLeDiff, false_implies, true_implies, not_false_eq_true, not_true_eq_false, and_true, mm_sh, hm, mjs_up_at, mjs_up_c, mjs_up_f]
    refine mj_blk rfl ?_
    simp +decide only [mjs_0, mjs_1, mjs_2, mjs_3, mjs_ble, true_and, Bool.false_eq_true, if_false, if_true, Nat.reduceAdd, Nat.reduceSub, Nat.reduceLeDiff, false_implies, true_implies, not_false_eq_true, not_true_eq_false, and_true, mm_sh, hm, mjs_up_at, mjs_up_c, mjs_up_f]
    exact hq J1 c1
  · have hk : N'.2.2 ≤ 1036 := (gv_d a1).2.2.1.2.1
    have hk1 : 36 ≤ N'.2.2 := (gv_d a1).2.2.1.1
    have htl := tv_lt hk a6
    have hrt := rt_lt hk hk1 a6
    have e120 : nI (rt t) = nI (256 * 12 + 61) ↔ t = 3133 := by
      exact rt_c (c := 3133) hk hk1 a6 (by decide)
    simp +decide only [mjs_0, mjs_1, mjs_2, mjs_3, mjs_ble, true_and, Bool.false_eq_true, if_false, if_true, Nat.reduceAdd, Nat.reduceSub, Nat.reduceLeDiff, false_implies, true_implies, not_false_eq_true, not_true_eq_false, and_true]
    refine ⟨fun q => ?_, fun q => ?_⟩
    · have e : t = 3133 := by
        have : nI t = 3133 := q
        exact (nI_eq (b := 3133) (by omega) (by decide)).mp this
      refine mj_blk rfl ?_
      simp +decide only [mjs_0, mjs_1, mjs_2, mjs_3, mjs_ble, true_and, Bool.false_eq_true, if_false, if_true, Nat.reduceAdd, Nat.reduceSub, Nat.reduceLeDiff, false_implies, true_implies, not_false_eq_true, not_true_eq_false, and_true, mc_sh, hr, mjs_up_at, mjs_up_c, mjs_up_f]
      refine hQ1 fb' K' P' N' S' C' L' I' a1 a2 (by omega) a4 (rx_in (z := 2) (by decide) rfl rfl rfl (rm_e a9 ?_))
      intro H Lg d nc ns J Q hJ hA hq
      obtain ⟨D, hD, hDk⟩ : ∃ D, d + (kr + 3) = D + 3 ∧ kr ≤ D := ⟨d + kr, by omega, by omega⟩
      rw [hD]
      try rw [hD] at hq
      refine mj_blk rfl ?_
      simp +decide only [mjs_0, mjs_1, mjs_2, mjs_3, mjs_ble, true_and, Bool.false_eq_true, if_false, if_true, Nat.reduceAdd, Nat.reduceSub, Nat.reduceLeDiff, false_implies, true_implies, not_false_eq_true, not_true_eq_false, and_true, mm_sh, hm, mjs_up_at, mjs_up_c, mjs_up_f]
      refine rq_121 (c := 10) hk hk1 a6 (by decide) (fun e1 => absurd ((cg_10 a6).mpr e1) a8) (fun _ => ?_)
      simp +decide only [mjs_0, mjs_1, mjs_2, mjs_3, mjs_ble, true_and, Bool.false_eq_true, if_false, if_true, Nat.reduceAdd, Nat.reduceSub, Nat.reduceLeDiff, false_implies, true_implies, not_false_eq_true, not_true_eq_false, and_true, mm_sh, hm, mjs_up_at, mjs_up_c, mjs_up_f]
      refine mj_blk rfl ?_
      simp +decide only [mjs_0, mjs_1, mjs_2, mjs_3, mjs_ble, true_and, Bool.false_eq_true, if_false, if_true, Nat.reduceAdd, Nat.reduceSub, Nat.reduceLeDiff, false_implies, true_implies, not_false_eq_true, not_true_eq_false, and_true, mm_sh, hm, mjs_up_at, mjs_up_c, mjs_up_f]
      refine r_120 (a := 12) (b := 61) ?_
      rw [if_pos (e120.mpr e)]
      simp +decide only [mjs_0, mjs_1, mjs_2, mjs_3, mjs_ble, true_and, Bool.false_eq_true, if_false, if_true, Nat.reduceAdd, Nat.reduceSub, Nat.reduceLeDiff, false_implies, true_implies, not_false_eq_true, not_true_eq_false, and_true, mm_sh, hm, mjs_up_at, mjs_up_c, mjs_up_f]
      refine mj_blk rfl ?_
      simp +decide only [mjs_0, mjs_1, mjs_2, mjs_3, mjs_ble, true_and, Bool.false_eq_true, if_false, if_true, Nat.reduceAdd, Nat.reduceSub, Nat.reduceLeDiff, false_implies, true_implies, not_false_eq_true, not_true_eq_false, and_true, mm_sh, hm, mjs_up_at, mjs_up_c, mjs_up_f]
      exact hq H J hx_rf hJ trivial
    · have e : ¬ t = 3133 := fun q' => q (by rw [q']; rfl)
      refine mj_blk rfl ?_
      simp +decide only [mjs_0, mjs_1, mjs_2, mjs_3, mjs_ble, true_and, Bool.false_eq_true, if_false, if_true, Nat.reduceAdd, Nat.reduceSub, Nat.reduceLeDiff, false_implies, true_implies, not_false_eq_true, not_true_eq_false, and_true, mc_sh, hr, mjs_up_at, mjs_up_c, mjs_up_f]
      refine cq_84 hR a2 (by omega) (fun I2 c2 _ => ?_)
      simp +decide only [mjs_0, mjs_1, mjs_2, mjs_3, mjs_ble, true_and, Bool.false_eq_true, if_false, if_true, Nat.reduceAdd, Nat.reduceSub, Nat.reduceLeDiff, false_implies, true_implies, not_false_eq_true, not_true_eq_false, and_true, mc_sh, hr, mjs_up_at, mjs_up_c, mjs_up_f]
      refine mj_blk rfl ?_
      simp +decide only [mjs_0, mjs_1, mjs_2, mjs_3, mjs_ble, true_and, Bool.false_eq_true, if_false, if_true, Nat.reduceAdd, Nat.reduceSub, Nat.reduceLeDiff, false_implies, true_implies, not_false_eq_true, not_true_eq_false, and_true, mc_sh, hr, mjs_up_at, mjs_up_c, mjs_up_f]
      refine hQ1 fb' K' (t :: P') N' S' C' L' I2 (gv_P1 a1 a6) c2 (by simp only [List.length_cons]; omega) ?_ (rx_in (z := 2) (by decide) rfl rfl rfl (rm_e a9 ?_))
      · refine ⟨a4.1, a4.2.1, ?_, a4.2.2.2⟩
        unfold mu at a5 ⊢
        simp only [List.length_cons]
        omega
      · intro H Lg d nc ns J Q hJ hA hq
        obtain ⟨D, hD, hDk⟩ : ∃ D, d + (kr + 3) = D + 3 ∧ kr ≤ D := ⟨d + kr, by omega, by omega⟩
        rw [hD]
        try rw [hD] at hq
        refine mj_blk rfl ?_
        simp +decide only [mjs_0, mjs_1, mjs_2, mjs_3, mjs_ble, true_and, Bool.false_eq_true, if_false, if_true, Nat.reduceAdd, Nat.reduceSub, Nat.reduceLeDiff, false_implies, true_implies, not_false_eq_true, not_true_eq_false, and_true, mm_sh, hm, mjs_up_at, mjs_up_c, mjs_up_f]
        refine rq_121 (c := 10) hk hk1 a6 (by decide) (fun e1 => absurd ((cg_10 a6).mpr e1) a8) (fun _ => ?_)
        simp +decide only [mjs_0, mjs_1, mjs_2, mjs_3, mjs_ble, true_and, Bool.false_eq_true, if_false, if_true, Nat.reduceAdd, Nat.reduceSub, Nat.reduceLeDiff, false_implies, true_implies, not_false_eq_true, not_true_eq_false, and_true, mm_sh, hm, mjs_up_at, mjs_up_c, mjs_up_f]
        refine mj_blk rfl ?_
        simp +decide only [mjs_0, mjs_1, mjs_2, mjs_3, mjs_ble, true_and, Bool.false_eq_true, if_false, if_true, Nat.reduceAdd, Nat.reduceSub, Nat.reduceLeDiff, false_implies, true_implies, not_false_eq_true, not_true_eq_false, and_true, mm_sh, hm, mjs_up_at, mjs_up_c, mjs_up_f]
        refine r_120 (a := 12) (b := 61) ?_
        rw [if_neg (fun q => e (e120.mp q))]
        simp +decide only [mjs_0, mjs_1, mjs_2, mjs_3, mjs_ble, true_and, Bool.false_eq_true, if_false, if_true, Nat.reduceAdd, Nat.reduceSub, Nat.reduceLeDiff, false_implies, true_implies, not_false_eq_true, not_true_eq_false, and_true, mm_sh, hm, mjs_up_at, mjs_up_c, mjs_up_f]
        refine mj_blk rfl ?_
        simp +decide only [mjs_0, mjs_1, mjs_2, mjs_3, mjs_ble, true_and, Bool.false_eq_true, if_false, if_true, Nat.reduceAdd, Nat.reduceSub, Nat.reduceLeDiff, false_implies, true_implies, not_false_eq_true, not_true_eq_false, and_true, mm_sh, hm, mjs_up_at, mjs_up_c, mjs_up_f]
        refine rq_118 hM' hJ (by omega) (by omega) (fun J1 c1 => ?_)
        simp +decide only [mjs_0, mjs_1, mjs_2, mjs_3, mjs_ble, true_and, Bool.false_eq_true, if_false, if_true, Nat.reduceAdd, Nat.reduceSub, Nat.reduceLeDiff, false_implies, true_implies, not_false_eq_true, not_true_eq_false, and_true, mm_sh, hm, mjs_up_at, mjs_up_c, mjs_up_f]
        refine mj_blk rfl ?_
        simp +decide only [mjs_0, mjs_1, mjs_2, mjs_3, mjs_ble, true_and, Bool.false_eq_true, if_false, if_true, Nat.reduceAdd, Nat.reduceSub, Nat.reduceLeDiff, false_implies, true_implies, not_false_eq_true, not_true_eq_false, and_true, mm_sh, hm, mjs_up_at, mjs_up_c, mjs_up_f]
        exact hq H J1 hx_rf c1 trivial
  · simp +decide only [mjs_0, mjs_1, mjs_2, mjs_3, mjs_ble, true_and, Bool.false_eq_true, if_false, if_true, Nat.reduceAdd, Nat.reduceSub, Nat.reduceLeDiff, false_implies, true_implies, not_false_eq_true, not_true_eq_false, and_true]
    refine hQE K' N' S' C' L' I' a1 a2 a3 a5 (rx_in (z := 2) (by decide) rfl rfl rfl (rm_e a4 ?_))
    intro H Lg d nc ns J Q hJ hA hq
    obtain ⟨D, hD, hDk⟩ : ∃ D, d + (kr + 3) = D + 3 ∧ kr ≤ D := ⟨d + kr, by omega, by omega⟩
    rw [hD]
    try rw [hD] at hq
    refine mj_blk rfl ?_
    simp +decide only [mjs_0, mjs_1, mjs_2, mjs_3, mjs_ble, true_and, Bool.false_eq_true, if_false, if_true, Nat.reduceAdd, Nat.reduceSub, Nat.reduceLeDiff, false_implies, true_implies, not_false_eq_true, not_true_eq_false, and_true, mm_sh, hm, mjs_up_at, mjs_up_c, mjs_up_f]
    refine r_121e ?_
    simp +decide only [mjs_0, mjs_1, mjs_2, mjs_3, mjs_ble, true_and, Bool.false_eq_true, if_false, if_true, Nat.reduceAdd, Nat.reduceSub, Nat.reduceLeDiff, false_implies, true_implies, not_false_eq_true, not_true_eq_false, and_true, mm_sh, hm, mjs_up_at, mjs_up_c, mjs_up_f]
    refine mj_blk rfl ?_
    simp +decide only [mjs_0, mjs_1, mjs_2, mjs_3, mjs_ble, true_and, Bool.false_eq_true, if_false, if_true, Nat.reduceAdd, Nat.reduceSub, Nat.reduceLeDiff, false_implies, true_implies, not_false_eq_true, not_true_eq_false, and_true, mm_sh, hm, mjs_up_at, mjs_up_c, mjs_up_f]
    refine r_120 (a := 12) (b := 61) ?_
    rw [if_neg (by decide)]
    simp +decide only [mjs_0, mjs_1, mjs_2, mjs_3, mjs_ble, true_and, Bool.false_eq_true, if_false, if_true, Nat.reduceAdd, Nat.reduceSub, Nat.reduceLeDiff, false_implies, true_implies, not_false_eq_true, not_true_eq_false, and_true, mm_sh, hm, mjs_up_at, mjs_up_c, mjs_up_f]
    refine mj_blk rfl ?_
    simp +decide only [mjs_0, mjs_1, mjs_2, mjs_3, mjs_ble, true_and, Bool.false_eq_true, if_false, if_true, Nat.reduceAdd, Nat.reduceSub, Nat.reduceLeDiff, false_implies, true_implies, not_false_eq_true, not_true_eq_false, and_true, mm_sh, hm, mjs_up_at, mjs_up_c, mjs_up_f]
    refine r_118e ?_
    simp +decide only [mjs_0, mjs_1, mjs_2, mjs_3, mjs_ble, true_and, Bool.false_eq_true, if_false, if_true, Nat.reduceAdd, Nat.reduceSub, Nat.reduceLeDiff, false_implies, true_implies, not_false_eq_true, not_true_eq_false, and_true, mm_sh, hm, mjs_up_at, mjs_up_c, mjs_up_f]
    refine mj_blk rfl ?_
    simp +decide only [mjs_0, mjs_1, mjs_2, mjs_3, mjs_ble, true_and, Bool.false_eq_true, if_false, if_true, Nat.reduceAdd, Nat.reduceSub, Nat.reduceLeDiff, false_implies, true_implies, not_false_eq_true, not_true_eq_false, and_true, mm_sh, hm, mjs_up_at, mjs_up_c, mjs_up_f]
    exact hq H J hx_rf hJ trivial
  · simp +decide only [mjs_0, mjs_1, mjs_2, mjs_3, mjs_ble, true_and, Bool.false_eq_true, if_false, if_true, Nat.reduceAdd, Nat.reduceSub, Nat.reduceLeDiff, false_implies, true_implies, not_false_eq_true, not_true_eq_false, and_true]
    exact hQ3 g' I' a1 (ry_in (z := 2) (by decide) rfl rfl rfl a2)
end MJEN
