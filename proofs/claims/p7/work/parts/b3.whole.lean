/-! A MACRO'S BODY as a whole, in both -/
def mh (M M' : sgM) : Prop := mg M M' ∧ M'.2.2.1 = M.2.2.1
theorem mh_rf {M : sgM} : mh M M := ⟨mg_rf, rfl⟩
theorem mh_tr {M M' M'' : sgM} (h : mh M M') (h' : mh M' M'') : mh M M'' := ⟨mg_tr h.1 h'.1, h'.2.trans h.2⟩
theorem mh_ad {M : sgM} {v : Nat} : mh M (adM M v) := ⟨mg_ad, rfl⟩
section MJBW
variable {X : mj_X} {d nc ns : Nat} {Q : mj_Q} {I I' J J' H : Nat → Nat → Int32} {Lg : Nat → Nat → Int64} {Rf : Nat → Nat → Option Nat} {fb fb' : Nat → Nat → Int32} {vb : Nat → Int32} {K K' K2 : Nat × Nat × Nat} {P P' P2 : List Nat} {E : sgE} {N N' N2 : sgN} {S S' S2 : sgS} {M M' : sgM} {C C' C2 : sgC} {O : sgO} {L L' L2 : sgL} {t n kc kr gl s' k a v xf h0 m b dp : Nat} {u : Int32} {g g' g0 : sg}
/-- keep, at the reference's block 325 -/
theorem k_325 (hM' : mj_Rt mm_R Rf) (hv : gv (K, P, E, N, S, M, C, O, L)) {r : Nat} (hr : r < 2 ^ 31) (hrv : mr_ba r = rt v) (hlt : M.2.2.2.1 < 10000) : RM X Rf mb_177 (kr + 5) 325 (z7 xf gl u h0 n (nI r) b dp) [] (K, P, E, N, S, M, C, O, L) na 144 (z8 xf gl u h0 n b dp) [] (K, P, E, N, S, adM M v, C, O, L) na := by
  have hm := mm_rf hM'
  intro H Lg d nc ns J Q hJ hA hq
  obtain ⟨D, hD, hDk⟩ : ∃ D, d + (kr + 5) = D + 5 ∧ kr ≤ D := ⟨d + kr, by omega, by omega⟩
  rw [hD]
  try rw [hD] at hq
  unfold z7
  unfold z8 at hq
  refine mj_blk rfl ?_
  simp +decide only [mjs_0, mjs_1, mjs_2, mjs_3, mjs_ble, true_and, Bool.false_eq_true, if_false, if_true, Nat.reduceAdd, Nat.reduceSub, Nat.reduceLeDiff, false_implies, true_implies, not_false_eq_true, not_true_eq_false, and_true, mm_sh, hm, mjs_up_at, mjs_up_c, mjs_up_f]
  refine rq_176 (v := v) hM' hv hJ hr hrv (fun _ J1 f2 => ?_) (fun q => absurd q (by omega))
  simp +decide only [mjs_0, mjs_1, mjs_2, mjs_3, mjs_ble, true_and, Bool.false_eq_true, if_false, if_true, Nat.reduceAdd, Nat.reduceSub, Nat.reduceLeDiff, false_implies, true_implies, not_false_eq_true, not_true_eq_false, and_true, mm_sh, hm, mjs_up_at, mjs_up_c, mjs_up_f]
  exact mj_nv (hq H J1 hx_rf f2 trivial)
theorem k_325f (hM' : mj_Rt mm_R Rf) (hv : gv (K, P, E, N, S, M, C, O, L)) {r : Nat} (hr : r < 2 ^ 31) (hrv : mr_ba r = rt v) (hlt : M.2.2.2.1 = 10000) : RMf X Rf mb_177 (kr + 5) 325 (z7 xf gl u h0 n (nI r) b dp) [] (K, P, E, N, S, M, C, O, L) na none (K, P, E, N, S, M, C, O, L) := by
  have hm := mm_rf hM'
  intro H Lg d nc ns J Q hJ hA hq
  obtain ⟨D, hD, hDk⟩ : ∃ D, d + (kr + 5) = D + 5 ∧ kr ≤ D := ⟨d + kr, by omega, by omega⟩
  rw [hD]
  try rw [hD] at hq
  unfold z7
  refine mj_blk rfl ?_
  simp +decide only [mjs_0, mjs_1, mjs_2, mjs_3, mjs_ble, true_and, Bool.false_eq_true, if_false, if_true, Nat.reduceAdd, Nat.reduceSub, Nat.reduceLeDiff, false_implies, true_implies, not_false_eq_true, not_true_eq_false, and_true, mm_sh, hm, mjs_up_at, mjs_up_c, mjs_up_f]
  refine rq_176 (v := v) hM' hv hJ hr hrv (fun q => absurd q (by omega)) (fun _ J1 f2 => ?_)
  simp +decide only [mjs_0, mjs_1, mjs_2, mjs_3, mjs_ble, true_and, Bool.false_eq_true, if_false, if_true, Nat.reduceAdd, Nat.reduceSub, Nat.reduceLeDiff, false_implies, true_implies, not_false_eq_true, not_true_eq_false, and_true, mm_sh, hm, mjs_up_at, mjs_up_c, mjs_up_f]
  exact mj_nv (f_177e (xf := xf) (gl := gl) (u := u) (h0 := h0) (n := n) (b := b) (dp := dp) hM' f2 (hq J1 f2))
/-- the reference's depth behind a token -/
theorem k_215 (hM' : mj_Rt mm_R Rf) (hk : k ≤ 1036) (h3 : 36 ≤ k) (ht : tv k t) (e6 : cg t ≠ 6) {D : Nat} {S' : mj_S} (hq : mj_rn X (mj_hd []) (mj_call X mj_P (mj_bi X) (D + 5)) mb_177 320 (z7 xf gl u h0 n (nI (rt t)) b dp) [] S' Q) : mj_rn X (mj_hd []) (mj_call X mj_P (mj_bi X) (D + 5)) mb_177 215 [some (.ref 36), some (.int (nI xf)), some (.int (nI gl)), some (.int u), some (.int (nI h0)), some (.int (nI n)), some (.int (nI (rt t))), some (.int (nI b)), none, none] [.int (nI dp)] S' Q := by
  unfold z7 at hq
  refine mj_blk rfl ?_
  simp +decide only [mjs_0, mjs_1, mjs_2, mjs_3, mjs_ble, true_and, Bool.false_eq_true, if_false, if_true, Nat.reduceAdd, Nat.reduceSub, Nat.reduceLeDiff, false_implies, true_implies, not_false_eq_true, not_true_eq_false, and_true]
  refine rq_121 (c := 6) hk h3 ht (by decide) (fun q => absurd q e6) (fun _ => ?_)
  simp +decide only [mjs_0, mjs_1, mjs_2, mjs_3, mjs_ble, true_and, Bool.false_eq_true, if_false, if_true, Nat.reduceAdd, Nat.reduceSub, Nat.reduceLeDiff, false_implies, true_implies, not_false_eq_true, not_true_eq_false, and_true]
  exact mj_nv hq
theorem k_181 (hM' : mj_Rt mm_R Rf) (hk : k ≤ 1036) (h3 : 36 ≤ k) (ht : tv k t) (e6 : cg t ≠ 6) {dp' : Nat} (hdp : (cg t = 1 ∧ dp' = dp + 1) ∨ (cg t = 2 ∧ dp = dp' + 1) ∨ (cg t ≠ 1 ∧ cg t ≠ 2 ∧ dp' = dp)) : RM X Rf mb_177 (kr + 5) 181 (z7 xf gl u h0 n (nI (rt t)) b dp) [] g na 320 (z7 xf gl u h0 n (nI (rt t)) b dp') [] g na := by
  intro H Lg d nc ns J Q hJ hA hq
  obtain ⟨D, hD, hDk⟩ : ∃ D, d + (kr + 5) = D + 5 ∧ kr ≤ D := ⟨d + kr, by omega, by omega⟩
  rw [hD]
  try rw [hD] at hq
  unfold z7
  rcases hdp with ⟨e, rfl⟩ | ⟨e, rfl⟩ | ⟨e1, e2, rfl⟩
  · refine mj_blk rfl ?_
    simp +decide only [mjs_0, mjs_1, mjs_2, mjs_3, mjs_ble, true_and, Bool.false_eq_true, if_false, if_true, Nat.reduceAdd, Nat.reduceSub, Nat.reduceLeDiff, false_implies, true_implies, not_false_eq_true, not_true_eq_false, and_true]
    refine rq_121 (c := 1) hk h3 ht (by decide) (fun _ => ?_) (fun q => absurd e q)
    simp +decide only [mjs_0, mjs_1, mjs_2, mjs_3, mjs_ble, true_and, Bool.false_eq_true, if_false, if_true, Nat.reduceAdd, Nat.reduceSub, Nat.reduceLeDiff, false_implies, true_implies, not_false_eq_true, not_true_eq_false, and_true]
    refine mj_blk rfl ?_
    simp +decide only [mjs_0, mjs_1, mjs_2, mjs_3, mjs_ble, true_and, Bool.false_eq_true, if_false, if_true, Nat.reduceAdd, Nat.reduceSub, Nat.reduceLeDiff, false_implies, true_implies, not_false_eq_true, not_true_eq_false, and_true, nI_1]
    exact mj_nv (k_215 hM' hk h3 ht e6 (hq H J hx_rf hJ trivial))
  · refine mj_blk rfl ?_
    simp +decide only [mjs_0, mjs_1, mjs_2, mjs_3, mjs_ble, true_and, Bool.false_eq_true, if_false, if_true, Nat.reduceAdd, Nat.reduceSub, Nat.reduceLeDiff, false_implies, true_implies, not_false_eq_true, not_true_eq_false, and_true]
    refine rq_121 (c := 1) hk h3 ht (by decide) (fun q => absurd (e.symm.trans q) (by decide)) (fun _ => ?_)
    simp +decide only [mjs_0, mjs_1, mjs_2, mjs_3, mjs_ble, true_and, Bool.false_eq_true, if_false, if_true, Nat.reduceAdd, Nat.reduceSub, Nat.reduceLeDiff, false_implies, true_implies, not_false_eq_true, not_true_eq_false, and_true]
    refine mj_blk rfl ?_
    simp +decide only [mjs_0, mjs_1, mjs_2, mjs_3, mjs_ble, true_and, Bool.false_eq_true, if_false, if_true, Nat.reduceAdd, Nat.reduceSub, Nat.reduceLeDiff, false_implies, true_implies, not_false_eq_true, not_true_eq_false, and_true]
    refine rq_121 (c := 2) hk h3 ht (by decide) (fun _ => ?_) (fun q => absurd e q)
    simp +decide only [mjs_0, mjs_1, mjs_2, mjs_3, mjs_ble, true_and, Bool.false_eq_true, if_false, if_true, Nat.reduceAdd, Nat.reduceSub, Nat.reduceLeDiff, false_implies, true_implies, not_false_eq_true, not_true_eq_false, and_true]
    refine mj_blk rfl ?_
    simp +decide only [mjs_0, mjs_1, mjs_2, mjs_3, mjs_ble, true_and, Bool.false_eq_true, if_false, if_true, Nat.reduceAdd, Nat.reduceSub, Nat.reduceLeDiff, false_implies, true_implies, not_false_eq_true, not_true_eq_false, and_true, nI_pred]
    exact mj_nv (k_215 hM' hk h3 ht e6 (hq H J hx_rf hJ trivial))
  · refine mj_blk rfl ?_
    simp +decide only [mjs_0, mjs_1, mjs_2, mjs_3, mjs_ble, true_and, Bool.false_eq_true, if_false, if_true, Nat.reduceAdd, Nat.reduceSub, Nat.reduceLeDiff, false_implies, true_implies, not_false_eq_true, not_true_eq_false, and_true]
    refine rq_121 (c := 1) hk h3 ht (by decide) (fun q => absurd q e1) (fun _ => ?_)
    simp +decide only [mjs_0, mjs_1, mjs_2, mjs_3, mjs_ble, true_and, Bool.false_eq_true, if_false, if_true, Nat.reduceAdd, Nat.reduceSub, Nat.reduceLeDiff, false_implies, true_implies, not_false_eq_true, not_true_eq_false, and_true]
    refine mj_blk rfl ?_
    simp +decide only [mjs_0, mjs_1, mjs_2, mjs_3, mjs_ble, true_and, Bool.false_eq_true, if_false, if_true, Nat.reduceAdd, Nat.reduceSub, Nat.reduceLeDiff, false_implies, true_implies, not_false_eq_true, not_true_eq_false, and_true]
    refine rq_121 (c := 2) hk h3 ht (by decide) (fun q => absurd q e2) (fun _ => ?_)
    simp +decide only [mjs_0, mjs_1, mjs_2, mjs_3, mjs_ble, true_and, Bool.false_eq_true, if_false, if_true, Nat.reduceAdd, Nat.reduceSub, Nat.reduceLeDiff, false_implies, true_implies, not_false_eq_true, not_true_eq_false, and_true]
    refine mj_blk rfl ?_
    simp +decide only [mjs_0, mjs_1, mjs_2, mjs_3, mjs_ble, true_and, Bool.false_eq_true, if_false, if_true, Nat.reduceAdd, Nat.reduceSub, Nat.reduceLeDiff, false_implies, true_implies, not_false_eq_true, not_true_eq_false, and_true]
    exact mj_nv (k_215 hM' hk h3 ht e6 (hq H J hx_rf hJ trivial))
theorem k_181s (hM' : mj_Rt mm_R Rf) (hk : k ≤ 1036) (h3 : 36 ≤ k) (ht : tv k t) (e6 : cg t = 6) : RM X Rf mb_177 (kr + 5) 181 (z7 xf gl u h0 n (nI (rt t)) b dp) [] g na 227 (z8 xf gl u h0 n b dp) [] g na := by
  intro H Lg d nc ns J Q hJ hA hq
  obtain ⟨D, hD, hDk⟩ : ∃ D, d + (kr + 5) = D + 5 ∧ kr ≤ D := ⟨d + kr, by omega, by omega⟩
  rw [hD]
  try rw [hD] at hq
  unfold z7
  unfold z8 at hq
  refine mj_blk rfl ?_
  simp +decide only [mjs_0, mjs_1, mjs_2, mjs_3, mjs_ble, true_and, Bool.false_eq_true, if_false, if_true, Nat.reduceAdd, Nat.reduceSub, Nat.reduceLeDiff, false_implies, true_implies, not_false_eq_true, not_true_eq_false, and_true]
  refine rq_121 (c := 1) hk h3 ht (by decide) (fun q => absurd (e6.symm.trans q) (by decide)) (fun _ => ?_)
  simp +decide only [mjs_0, mjs_1, mjs_2, mjs_3, mjs_ble, true_and, Bool.false_eq_true, if_false, if_true, Nat.reduceAdd, Nat.reduceSub, Nat.reduceLeDiff, false_implies, true_implies, not_false_eq_true, not_true_eq_false, and_true]
  refine mj_blk rfl ?_
  simp +decide only [mjs_0, mjs_1, mjs_2, mjs_3, mjs_ble, true_and, Bool.false_eq_true, if_false, if_true, Nat.reduceAdd, Nat.reduceSub, Nat.reduceLeDiff, false_implies, true_implies, not_false_eq_true, not_true_eq_false, and_true]
  refine rq_121 (c := 2) hk h3 ht (by decide) (fun q => absurd (e6.symm.trans q) (by decide)) (fun _ => ?_)
  simp +decide only [mjs_0, mjs_1, mjs_2, mjs_3, mjs_ble, true_and, Bool.false_eq_true, if_false, if_true, Nat.reduceAdd, Nat.reduceSub, Nat.reduceLeDiff, false_implies, true_implies, not_false_eq_true, not_true_eq_false, and_true]
  refine mj_blk rfl ?_
  simp +decide only [mjs_0, mjs_1, mjs_2, mjs_3, mjs_ble, true_and, Bool.false_eq_true, if_false, if_true, Nat.reduceAdd, Nat.reduceSub, Nat.reduceLeDiff, false_implies, true_implies, not_false_eq_true, not_true_eq_false, and_true]
  refine mj_blk rfl ?_
  simp +decide only [mjs_0, mjs_1, mjs_2, mjs_3, mjs_ble, true_and, Bool.false_eq_true, if_false, if_true, Nat.reduceAdd, Nat.reduceSub, Nat.reduceLeDiff, false_implies, true_implies, not_false_eq_true, not_true_eq_false, and_true]
  refine rq_121 (c := 6) hk h3 ht (by decide) (fun _ => ?_) (fun q => absurd e6 q)
  simp +decide only [mjs_0, mjs_1, mjs_2, mjs_3, mjs_ble, true_and, Bool.false_eq_true, if_false, if_true, Nat.reduceAdd, Nat.reduceSub, Nat.reduceLeDiff, false_implies, true_implies, not_false_eq_true, not_true_eq_false, and_true]
  exact mj_nv (hq H J hx_rf hJ trivial)
theorem k_320 (hd : 0 < dp ∧ dp < 2 ^ 31) {x : Int32} : RM X Rf mb_177 (kr + 5) 320 (z7 xf gl u h0 n x b dp) [] g na 325 (z7 xf gl u h0 n x b dp) [] g na := by
  intro H Lg d nc ns J Q hJ hA hq
  obtain ⟨D, hD, hDk⟩ : ∃ D, d + (kr + 5) = D + 5 ∧ kr ≤ D := ⟨d + kr, by omega, by omega⟩
  rw [hD]
  try rw [hD] at hq
  unfold z7 at hq ⊢
  refine mj_blk rfl ?_
  simp +decide only [mjs_0, mjs_1, mjs_2, mjs_3, mjs_ble, true_and, Bool.false_eq_true, if_false, if_true, Nat.reduceAdd, Nat.reduceSub, Nat.reduceLeDiff, false_implies, true_implies, not_false_eq_true, not_true_eq_false, and_true]
  exact ⟨fun q => absurd q (nI_nle hd.1 hd.2), fun _ => mj_nv (hq H J hx_rf hJ trivial)⟩
theorem k_end (hM' : mj_Rt mm_R Rf) {x : Int32} : RM X Rf mb_177 (kr + 5) 320 (z7 xf gl u h0 n x b 0) [] g na 334 (z3 gl u h0 n b) [] g na := by
  have hm := mm_rf hM'
  intro H Lg d nc ns J Q hJ hA hq
  obtain ⟨D, hD, hDk⟩ : ∃ D, d + (kr + 5) = D + 5 ∧ kr ≤ D := ⟨d + kr, by omega, by omega⟩
  rw [hD]
  try rw [hD] at hq
  unfold z7
  unfold z3 at hq
  refine mj_blk rfl ?_
  simp +decide only [mjs_0, mjs_1, mjs_2, mjs_3, mjs_ble, true_and, Bool.false_eq_true, if_false, if_true, Nat.reduceAdd, Nat.reduceSub, Nat.reduceLeDiff, false_implies, true_implies, not_false_eq_true, not_true_eq_false, and_true]
  refine mj_blk rfl ?_
  simp +decide only [mjs_0, mjs_1, mjs_2, mjs_3, mjs_ble, true_and, Bool.false_eq_true, if_false, if_true, Nat.reduceAdd, Nat.reduceSub, Nat.reduceLeDiff, false_implies, true_implies, not_false_eq_true, not_true_eq_false, and_true, mm_sh, hm, mjs_up_at, mjs_up_c, mjs_up_f, hJ.1.2.2.2]
  refine mj_blk rfl ?_
  simp +decide only [mjs_0, mjs_1, mjs_2, mjs_3, mjs_ble, true_and, Bool.false_eq_true, if_false, if_true, Nat.reduceAdd, Nat.reduceSub, Nat.reduceLeDiff, false_implies, true_implies, not_false_eq_true, not_true_eq_false, and_true, mm_sh, hm, mjs_up_at, mjs_up_c, mjs_up_f]
  exact mj_nv (hq H J hx_rf hJ trivial)
theorem p_body (hR : mj_Rt mp_R Rf) (hM' : mj_Rt mm_R Rf) (hX : XD X Rf vb kc kr m) (h12 : 12 ≤ kr) (hxf : xf = 0 ∨ xf = 1) {D : Nat} (hD : kc + 3 ≤ D) (hn : K.2.2 + m = 40) (hr' : nc + 1 ≤ X.2.2.1 ∧ ns + 6 ≤ X.2.2.2) {lv0 : mj_LV} {sl : Int32} (hn9 : n ≤ 9) (hv : gv (K, P, E, N, S, M, C, O, L)) (hw : gw K S) (hp : P.length ≤ 9999) (hb : b = M.2.2.2.1) (h : RC fb vb (K, P, E, N, S, M, C, O, L) I)
    (hM0 : RM X Rf mb_177 (kr + 5) 0 lv0 [] g0 na 144 (z8 xf gl u h0 n b 1) [] (K, P, E, N, S, M, C, O, L) na)
    (hQ1 : ∀ fb' K' P' N' S' M' C' L' I', gv (K', P', E, N', S', M', C', O, L') → RC fb' vb (K', P', E, N', S', M', C', O, L') I' → P'.length ≤ 9999 → xs K P N S C L K' P' N' S' C' L' → mh M M' → bod M' b n → RM X Rf mb_177 (kr + 5) 0 lv0 [] g0 na 334 (z3 gl u h0 n b) [] (K', P', E, N', S', M', C', O, L') na → mj_rn X (mj_hd []) (mj_call X mj_P (mj_bi X) D) mb_66 159 [some (.ref 34), none, some (.int (nI gl)), some (.int sl), none, none, none, none, none, none] [] (sh59, I', Lg, Rf, nc, ns) Q)
    (hQ3 : ∀ fb g' I', RCf fb vb g' I' → RMf X Rf mb_177 (kr + 5) 0 lv0 [] g0 na none g' → Q (.inr 500) (sh59, I', Lg, Rf, nc + 1, ns + 6)) :
    mj_rn X (mj_hd []) (mj_call X mj_P (mj_bi X) D) mb_66 27 [some (.ref 34), some (.int (nI xf)), some (.int (nI gl)), some (.int sl), some (.int (nI n)), some (.int (nI 0)), some (.int (nI 0)), some (.int (nI 0)), none, none] [] (sh59, I, Lg, Rf, nc, ns) Q := by
  have hr := mc_rf hR
  have k5 := (rc_d h).1.2.2.2
  have hmu0 := mu_le (K := K) (P := P) (L := L) k5.2.1 (by omega) (tl_le (gv_d hv).2.2.2.2.2.2.2)
  obtain ⟨d, rfl⟩ : ∃ d, D = d + 3 := ⟨D - 3, by omega⟩
  have loop : ∀ (q i dep fl : Nat) (fb' : Nat → Nat → Int32) (K' : Nat × Nat × Nat) (P' : List Nat) (N' : sgN) (S' : sgS) (M' : sgM) (C' : sgC) (L' : sgL) (I' : Nat → Nat → Int32), mu K' P' L' ≤ q → i + q ≤ 700000000 → dep ≤ i → (fl = 0 ∨ fl = 1) → gv (K', P', E, N', S', M', C', O, L') → RC fb' vb (K', P', E, N', S', M', C', O, L') I' → P'.length ≤ 9999 → xs K P N S C L K' P' N' S' C' L' → mh M M' → bod M' b n → RM X Rf mb_177 (kr + 5) 0 lv0 [] g0 na (if fl = 0 then 144 else 227) (z8 xf gl u h0 n b (dep + 1)) [] (K', P', E, N', S', M', C', O, L') na → mj_rn X (mj_hd []) (mj_call X mj_P (mj_bi X) (d + 3)) mb_66 27 [some (.ref 34), some (.int (nI xf)), some (.int (nI gl)), some (.int sl), some (.int (nI n)), some (.int (nI dep)), some (.int (nI fl)), some (.int (nI i)), none, none] [] (sh59, I', Lg, Rf, nc, ns) Q := by
    intro q
    induction q using Nat.strongRecOn with
    | ind q ih =>
      intro i dep fl fb' K' P' N' S' M1 C' L' I' b1 b2 b3 b4 hv' h' hp' hx hmg hbo hM
      have hgw := gw_xs hw hx
      have hK2 := hx.2.1.2
      have hdp : 0 < dep + 1 ∧ dep + 1 < 2 ^ 31 := ⟨Nat.succ_pos _, by omega⟩
      refine mj_blk rfl ?_
      simp +decide only [mjs_0, mjs_1, mjs_2, mjs_3, mjs_ble, true_and, Bool.false_eq_true, if_false, if_true, Nat.reduceAdd, Nat.reduceSub, Nat.reduceLeDiff, false_implies, true_implies, not_false_eq_true, not_true_eq_false, and_true]
      refine ⟨fun q => absurd q (nI_ge (a := i) (b := 1000000000) (by omega) (by decide)), fun _ => mj_blk rfl ?_⟩
      simp +decide only [mjs_0, mjs_1, mjs_2, mjs_3, mjs_ble, true_and, Bool.false_eq_true, if_false, if_true, Nat.reduceAdd, Nat.reduceSub, Nat.reduceLeDiff, false_implies, true_implies, not_false_eq_true, not_true_eq_false, and_true]
      refine ⟨fun q => absurd q (nI_pos (by omega)), fun _ => ?_⟩
      refine mj_nv (p_tok hR hM' hX h12 hxf hD (by rw [hK2]; exact hn) hr' hv' hgw (by omega) h' (fun fb2 K2 P2 N2 S2 C2 L2 I2 t a1 a2 a3 a4 a5 a6 a7 => ?_) (fun g2 I2 a1 a2 => ?_))
      · have hk : N2.2.2 ≤ 1036 := (gv_d a1).2.2.1.2.1
        have hk1 : 36 ≤ N2.2.2 := (gv_d a1).2.2.1.1
        have htl := tv_lt hk a6
        have hrt := rt_lt hk hk1 a6
        have hx2 := xs_tr hx a4
        have hcl := cg_le (t := t)
        obtain ⟨s6, s7⟩ := rt_pl hk hk1 a6
        have s5 := (pl_sl hk a6).2.2.2.2
        have hpl := tb_lt hk s7
        have spl : (if t / 1048576 % 2 = 1 then t - 1048576 else t) = pl t := rfl
        refine mj_blk rfl ?_
        simp +decide only [mjs_0, mjs_1, mjs_2, mjs_3, mjs_ble, true_and, Bool.false_eq_true, if_false, if_true, Nat.reduceAdd, Nat.reduceSub, Nat.reduceLeDiff, false_implies, true_implies, not_false_eq_true, not_true_eq_false, and_true]
        refine c_189 (by omega) ?_
        rw [cg_eq]
        rcases b4 with rfl | rfl
        · have hM : RM X Rf mb_177 (kr + 5) 0 lv0 [] g0 na 144 (z8 xf gl u h0 n b (dep + 1)) [] (K', P', E, N', S', M1, C', O, L') na := hM
          have r181 := rm_tr hM (rm_g1 (gl := gl) (u := u) (h0 := h0) (n := n) (b := b) hM' hxf hdp a7)
          simp +decide only [mjs_0, mjs_1, mjs_2, mjs_3, mjs_ble, true_and, Bool.false_eq_true, if_false, if_true, Nat.reduceAdd, Nat.reduceSub, Nat.reduceLeDiff, false_implies, true_implies, not_false_eq_true, not_true_eq_false, and_true]
          refine mj_blk rfl ?_
          simp +decide only [mjs_0, mjs_1, mjs_2, mjs_3, mjs_ble, true_and, Bool.false_eq_true, if_false, if_true, Nat.reduceAdd, Nat.reduceSub, Nat.reduceLeDiff, false_implies, true_implies, not_false_eq_true, not_true_eq_false, and_true]
          by_cases e6 : cg t = 6
          · refine ⟨fun q => absurd (by rw [e6]; rfl) q, fun _ => mj_blk rfl ?_⟩
            simp +decide only [mjs_0, mjs_1, mjs_2, mjs_3, mjs_ble, true_and, Bool.false_eq_true, if_false, if_true, Nat.reduceAdd, Nat.reduceSub, Nat.reduceLeDiff, false_implies, true_implies, not_false_eq_true, not_true_eq_false, and_true]
            refine mj_blk rfl ?_
            simp +decide only [mjs_0, mjs_1, mjs_2, mjs_3, mjs_ble, true_and, Bool.false_eq_true, if_false, if_true, Nat.reduceAdd, Nat.reduceSub, Nat.reduceLeDiff, false_implies, true_implies, not_false_eq_true, not_true_eq_false, and_true, nI_1]
            exact mj_nv (ih (mu K2 P2 L2) (by omega) (i + 1) dep 1 fb2 K2 P2 N2 S2 M1 C2 L2 I2 (Nat.le_refl _) (by omega) (by omega) (Or.inr rfl) a1 a2 a3 hx2 hmg hbo (rm_tr r181 (k_181s hM' hk hk1 a6 e6)))
          · -- kept, or the end
            have keepc : ∀ (y : Int32) (dep' : Nat), nI dep + y = nI dep' → dep' ≤ i + 1 → RM X Rf mb_177 (kr + 5) 0 lv0 [] g0 na 320 (z7 xf gl u h0 n (nI (rt t)) b (dep' + 1)) [] (K2, P2, E, N2, S2, M1, C2, O, L2) na → mj_rn X (mj_hd []) (mj_call X mj_P (mj_bi X) (d + 3)) mb_66 133 [some (.ref 34), some (.int (nI xf)), some (.int (nI gl)), some (.int sl), some (.int (nI n)), none, some (.int (nI 0)), some (.int (nI i)), some (.int (nI t)), none] [.int y, .int (nI dep)] (sh59, I2, Lg, Rf, nc, ns) Q := by
              intro y dep' hy hle hr320
              have hdp' : 0 < dep' + 1 ∧ dep' + 1 < 2 ^ 31 := ⟨Nat.succ_pos _, by omega⟩
              have r325 := rm_tr hr320 (k_320 hdp')
              refine mj_blk rfl ?_
              simp +decide only [mjs_0, mjs_1, mjs_2, mjs_3, mjs_ble, true_and, Bool.false_eq_true, if_false, if_true, Nat.reduceAdd, Nat.reduceSub, Nat.reduceLeDiff, false_implies, true_implies, not_false_eq_true, not_true_eq_false, and_true, hy]
              refine ⟨fun q => absurd q (nI_pos (by omega)), fun _ => mj_blk rfl ?_⟩
              simp +decide only [mjs_0, mjs_1, mjs_2, mjs_3, mjs_ble, true_and, Bool.false_eq_true, if_false, if_true, Nat.reduceAdd, Nat.reduceSub, Nat.reduceLeDiff, false_implies, true_implies, not_false_eq_true, not_true_eq_false, and_true, mc_sh, hr, mjs_up_at, mjs_up_c, mjs_up_f]
              refine c_183 (by omega) ?_
              rw [spl]
              simp +decide only [mjs_0, mjs_1, mjs_2, mjs_3, mjs_ble, true_and, Bool.false_eq_true, if_false, if_true, Nat.reduceAdd, Nat.reduceSub, Nat.reduceLeDiff, false_implies, true_implies, not_false_eq_true, not_true_eq_false, and_true, mc_sh, hr, mjs_up_at, mjs_up_c, mjs_up_f]
              refine cq_50 (v := pl t) hR a1 a2 hr' (fun hlt I4 d1 => ?_) (fun he I4 d1 => ?_)
              · simp +decide only [mjs_0, mjs_1, mjs_2, mjs_3, mjs_ble, true_and, Bool.false_eq_true, if_false, if_true, Nat.reduceAdd, Nat.reduceSub, Nat.reduceLeDiff, false_implies, true_implies, not_false_eq_true, not_true_eq_false, and_true, mc_sh, hr, mjs_up_at, mjs_up_c, mjs_up_f]
                refine mj_blk rfl ?_
                simp +decide only [mjs_0, mjs_1, mjs_2, mjs_3, mjs_ble, true_and, Bool.false_eq_true, if_false, if_true, Nat.reduceAdd, Nat.reduceSub, Nat.reduceLeDiff, false_implies, true_implies, not_false_eq_true, not_true_eq_false, and_true, nI_1]
                exact mj_nv (ih (mu K2 P2 L2) (by omega) (i + 1) dep' 0 fb2 K2 P2 N2 S2 (adM M1 (pl t)) C2 L2 I4 (Nat.le_refl _) (by omega) hle (Or.inl rfl) (gv_ad a1 hlt (Or.inl s7)) d1 a3 hx2 (mh_tr hmg mh_ad) (bod_ad hbo (fun q => absurd q (by omega))) (rm_tr r325 (k_325 hM' a1 (by omega) (s6.trans s5.symm) hlt)))
              · simp +decide only [mjs_0, mjs_1, mjs_2, mjs_3, mjs_ble, true_and, Bool.false_eq_true, if_false, if_true, Nat.reduceAdd, Nat.reduceSub, Nat.reduceLeDiff, false_implies, true_implies, not_false_eq_true, not_true_eq_false, and_true]
                exact hQ3 fb2 _ I4 d1 (rm_f r325 (k_325f hM' a1 (by omega) (s6.trans s5.symm) he))
            refine ⟨fun _ => mj_blk rfl ?_, fun q => absurd (fun q => e6 ((nI_eq (b := 6) (by omega) (by decide)).mp q)) q⟩
            simp +decide only [mjs_0, mjs_1, mjs_2, mjs_3, mjs_ble, true_and, Bool.false_eq_true, if_false, if_true, Nat.reduceAdd, Nat.reduceSub, Nat.reduceLeDiff, false_implies, true_implies, not_false_eq_true, not_true_eq_false, and_true]
            by_cases e1 : cg t = 1
            · refine ⟨fun q => absurd (by rw [e1]; rfl) q, fun _ => mj_blk rfl ?_⟩
              simp +decide only [mjs_0, mjs_1, mjs_2, mjs_3, mjs_ble, true_and, Bool.false_eq_true, if_false, if_true, Nat.reduceAdd, Nat.reduceSub, Nat.reduceLeDiff, false_implies, true_implies, not_false_eq_true, not_true_eq_false, and_true]
              exact mj_nv (keepc 1 (dep + 1) (nI_1 dep) (by omega) (rm_tr r181 (k_181 hM' hk hk1 a6 e6 (Or.inl ⟨e1, rfl⟩))))
            · refine ⟨fun _ => mj_blk rfl ?_, fun q => absurd (fun q => e1 ((nI_eq (b := 1) (by omega) (by decide)).mp q)) q⟩
              simp +decide only [mjs_0, mjs_1, mjs_2, mjs_3, mjs_ble, true_and, Bool.false_eq_true, if_false, if_true, Nat.reduceAdd, Nat.reduceSub, Nat.reduceLeDiff, false_implies, true_implies, not_false_eq_true, not_true_eq_false, and_true]
              by_cases e2 : cg t = 2
              · refine ⟨fun q => absurd (by rw [e2]; rfl) q, fun _ => mj_blk rfl ?_⟩
                simp +decide only [mjs_0, mjs_1, mjs_2, mjs_3, mjs_ble, true_and, Bool.false_eq_true, if_false, if_true, Nat.reduceAdd, Nat.reduceSub, Nat.reduceLeDiff, false_implies, true_implies, not_false_eq_true, not_true_eq_false, and_true]
                cases dep with
                | zero =>
                  have hz : nI 0 + (-1 : Int32) = -1 := by decide
                  refine mj_blk rfl ?_
                  simp +decide only [mjs_0, mjs_1, mjs_2, mjs_3, mjs_ble, true_and, Bool.false_eq_true, if_false, if_true, Nat.reduceAdd, Nat.reduceSub, Nat.reduceLeDiff, false_implies, true_implies, not_false_eq_true, not_true_eq_false, and_true, hz]
                  refine mj_blk rfl ?_
                  simp +decide only [mjs_0, mjs_1, mjs_2, mjs_3, mjs_ble, true_and, Bool.false_eq_true, if_false, if_true, Nat.reduceAdd, Nat.reduceSub, Nat.reduceLeDiff, false_implies, true_implies, not_false_eq_true, not_true_eq_false, and_true, nI_1]
                  refine mj_blk rfl ?_
                  simp +decide only [mjs_0, mjs_1, mjs_2, mjs_3, mjs_ble, true_and, Bool.false_eq_true, if_false, if_true, Nat.reduceAdd, Nat.reduceSub, Nat.reduceLeDiff, false_implies, true_implies, not_false_eq_true, not_true_eq_false, and_true]
                  refine ⟨fun q => absurd q (nI_ge (a := i + 1) (b := 1000000000) (by omega) (by decide)), fun _ => mj_blk rfl ?_⟩
                  simp +decide only [mjs_0, mjs_1, mjs_2, mjs_3, mjs_ble, true_and, Bool.false_eq_true, if_false, if_true, Nat.reduceAdd, Nat.reduceSub, Nat.reduceLeDiff, false_implies, true_implies, not_false_eq_true, not_true_eq_false, and_true]
                  exact mj_nv (hQ1 fb2 K2 P2 N2 S2 M1 C2 L2 I2 a1 a2 a3 hx2 hmg hbo (rm_tr r181 (rm_tr (k_181 (dp' := 0) hM' hk hk1 a6 e6 (Or.inr (Or.inl ⟨e2, rfl⟩))) (k_end hM'))))
                | succ dep =>
                  refine mj_nv (keepc (-1) dep ?_ (by omega) (rm_tr r181 (k_181 hM' hk hk1 a6 e6 (Or.inr (Or.inl ⟨e2, rfl⟩)))))
                  rw [← Int32.sub_eq_add_neg]
                  exact nI_pred dep
              · refine ⟨fun _ => mj_blk rfl ?_, fun q => absurd (fun q => e2 ((nI_eq (b := 2) (by omega) (by decide)).mp q)) q⟩
                simp +decide only [mjs_0, mjs_1, mjs_2, mjs_3, mjs_ble, true_and, Bool.false_eq_true, if_false, if_true, Nat.reduceAdd, Nat.reduceSub, Nat.reduceLeDiff, false_implies, true_implies, not_false_eq_true, not_true_eq_false, and_true]
                refine mj_nv (keepc 0 dep ?_ (by omega) (rm_tr r181 (k_181 hM' hk hk1 a6 e6 (Or.inr (Or.inr ⟨e1, e2, rfl⟩)))))
                rw [Int32.add_zero]
        · have hM : RM X Rf mb_177 (kr + 5) 0 lv0 [] g0 na 227 (z8 xf gl u h0 n b (dep + 1)) [] (K', P', E, N', S', M1, C', O, L') na := hM
          have r242 := rm_tr hM (rm_g2 (gl := gl) (u := u) (h0 := h0) (n := n) (b := b) (dp := dep + 1) hM' hxf a7)
          have keepd : ∀ (v r : Nat) (I3 : Nat → Nat → Int32), r < 2 ^ 31 → mr_ba r = rt v → pv N2.2.2 v → (2097152 ≤ v → v ≤ 2097152 + n) → RM X Rf mb_177 (kr + 5) 0 lv0 [] g0 na 325 (z7 xf gl u h0 n (nI r) b (dep + 1)) [] (K2, P2, E, N2, S2, M1, C2, O, L2) na → ∀ I4, (M1.2.2.2.1 < 10000 → RC fb2 vb (K2, P2, E, N2, S2, adM M1 v, C2, O, L2) I4) → M1.2.2.2.1 < 10000 → mj_rn X (mj_hd []) (mj_call X mj_P (mj_bi X) (d + 3)) mb_66 153 [some (.ref 34), some (.int (nI xf)), some (.int (nI gl)), some (.int sl), some (.int (nI n)), some (.int (nI dep)), some (.int 0), some (.int (nI i)), none, none] [] (sh59, I4, Lg, Rf, nc, ns) Q := by
            intro v r I3 c1 c2 c3 c4 c5 I4 d1 hlt
            refine mj_blk rfl ?_
            simp +decide only [mjs_0, mjs_1, mjs_2, mjs_3, mjs_ble, true_and, Bool.false_eq_true, if_false, if_true, Nat.reduceAdd, Nat.reduceSub, Nat.reduceLeDiff, false_implies, true_implies, not_false_eq_true, not_true_eq_false, and_true, nI_1]
            exact mj_nv (ih (mu K2 P2 L2) (by omega) (i + 1) dep 0 fb2 K2 P2 N2 S2 (adM M1 v) C2 L2 I4 (Nat.le_refl _) (by omega) (by omega) (Or.inl rfl) (gv_ad a1 hlt c3) (d1 hlt) a3 hx2 (mh_tr hmg mh_ad) (bod_ad hbo c4) (rm_tr c5 (k_325 hM' a1 c1 c2 hlt)))
          simp +decide only [mjs_0, mjs_1, mjs_2, mjs_3, mjs_ble, true_and, Bool.false_eq_true, if_false, if_true, Nat.reduceAdd, Nat.reduceSub, Nat.reduceLeDiff, false_implies, true_implies, not_false_eq_true, not_true_eq_false, and_true]
          refine mj_blk rfl ?_
          simp +decide only [mjs_0, mjs_1, mjs_2, mjs_3, mjs_ble, true_and, Bool.false_eq_true, if_false, if_true, Nat.reduceAdd, Nat.reduceSub, Nat.reduceLeDiff, false_implies, true_implies, not_false_eq_true, not_true_eq_false, and_true, mc_sh, hr, mjs_up_at, mjs_up_c, mjs_up_f]
          refine cq_68 hR hr' (by omega) hn9 a1 a2 (fun hps => ?_) (fun hps e6 => ?_) (fun hps e6 I4 d1 => ?_)
          · have hps' := hps
            unfold psl at hps'
            have ebr : mr_ba (262144 + (t - 3120)) = rt (2097152 + (t - 3120)) := by
              unfold mr_ba rt rb
              rw [if_neg (by omega), if_neg (by omega), if_neg (by omega), if_neg (by omega), if_pos (by omega)]
              omega
            have r325 : RM X Rf mb_177 (kr + 5) 0 lv0 [] g0 na 325 (z7 xf gl u h0 n (nI (262144 + (t - 3120))) b (dep + 1)) [] (K2, P2, E, N2, S2, M1, C2, O, L2) na := by
              refine rm_tr r242 ?_
              intro H Lg d nc ns J Q hJ hA hq
              obtain ⟨D, hD, hDk⟩ : ∃ D, d + (kr + 5) = D + 5 ∧ kr ≤ D := ⟨d + kr, by omega, by omega⟩
              rw [hD]
              try rw [hD] at hq
              exact r_242 hM' hdp hn9 hk hk1 a6 hJ (fun _ => hq H J hx_rf hJ trivial) (fun q => absurd hps q) (fun q => absurd hps q)
            simp +decide only [mjs_0, mjs_1, mjs_2, mjs_3, mjs_ble, true_and, Bool.false_eq_true, if_false, if_true, Nat.reduceAdd, Nat.reduceSub, Nat.reduceLeDiff, false_implies, true_implies, not_false_eq_true, not_true_eq_false, and_true, mc_sh, hr, mjs_up_at, mjs_up_c, mjs_up_f]
            refine cq_50 (v := 2097152 + (t - 3120)) hR a1 a2 hr' (fun hlt I4 d1 => ?_) (fun he I4 d1 => ?_)
            · simp +decide only [mjs_0, mjs_1, mjs_2, mjs_3, mjs_ble, true_and, Bool.false_eq_true, if_false, if_true, Nat.reduceAdd, Nat.reduceSub, Nat.reduceLeDiff, false_implies, true_implies, not_false_eq_true, not_true_eq_false, and_true, mc_sh, hr, mjs_up_at, mjs_up_c, mjs_up_f]
              exact mj_nv (keepd (2097152 + (t - 3120)) (262144 + (t - 3120)) I4 (by omega) ebr (Or.inr ⟨by omega, by omega⟩) (fun _ => by omega) r325 I4 (fun _ => d1) hlt)
            · simp +decide only [mjs_0, mjs_1, mjs_2, mjs_3, mjs_ble, true_and, Bool.false_eq_true, if_false, if_true, Nat.reduceAdd, Nat.reduceSub, Nat.reduceLeDiff, false_implies, true_implies, not_false_eq_true, not_true_eq_false, and_true]
              exact hQ3 fb2 _ I4 d1 (rm_f r325 (k_325f hM' a1 (by omega) ebr he))
          · have r325 : RM X Rf mb_177 (kr + 5) 0 lv0 [] g0 na 325 (z7 xf gl u h0 n (nI (rt t)) b (dep + 1)) [] (K2, P2, E, N2, S2, M1, C2, O, L2) na := by
              refine rm_tr r242 ?_
              intro H Lg d nc ns J Q hJ hA hq
              obtain ⟨D, hD, hDk⟩ : ∃ D, d + (kr + 5) = D + 5 ∧ kr ≤ D := ⟨d + kr, by omega, by omega⟩
              rw [hD]
              try rw [hD] at hq
              exact r_242 hM' hdp hn9 hk hk1 a6 hJ (fun q => absurd q hps) (fun _ _ => hq H J hx_rf hJ trivial) (fun _ q => absurd e6 q)
            have hlt3 : t < 3328 := by
              unfold cg at e6
              split at e6 <;> omega
            have ept : pl t = t := by
              unfold pl
              rw [if_neg (by omega)]
            rw [ept] at s6 s7 s5
            simp +decide only [mjs_0, mjs_1, mjs_2, mjs_3, mjs_ble, true_and, Bool.false_eq_true, if_false, if_true, Nat.reduceAdd, Nat.reduceSub, Nat.reduceLeDiff, false_implies, true_implies, not_false_eq_true, not_true_eq_false, and_true, mc_sh, hr, mjs_up_at, mjs_up_c, mjs_up_f]
            refine cq_50 (v := t) hR a1 a2 hr' (fun hlt I4 d1 => ?_) (fun he I4 d1 => ?_)
            · simp +decide only [mjs_0, mjs_1, mjs_2, mjs_3, mjs_ble, true_and, Bool.false_eq_true, if_false, if_true, Nat.reduceAdd, Nat.reduceSub, Nat.reduceLeDiff, false_implies, true_implies, not_false_eq_true, not_true_eq_false, and_true, mc_sh, hr, mjs_up_at, mjs_up_c, mjs_up_f]
              exact mj_nv (keepd t (rt t) I4 (by omega) (s6.trans s5.symm) (Or.inl s7) (fun q => absurd q (by omega)) r325 I4 (fun _ => d1) hlt)
            · simp +decide only [mjs_0, mjs_1, mjs_2, mjs_3, mjs_ble, true_and, Bool.false_eq_true, if_false, if_true, Nat.reduceAdd, Nat.reduceSub, Nat.reduceLeDiff, false_implies, true_implies, not_false_eq_true, not_true_eq_false, and_true]
              exact hQ3 fb2 _ I4 d1 (rm_f r325 (k_325f hM' a1 (by omega) (s6.trans s5.symm) he))
          · simp +decide only [mjs_0, mjs_1, mjs_2, mjs_3, mjs_ble, true_and, Bool.false_eq_true, if_false, if_true, Nat.reduceAdd, Nat.reduceSub, Nat.reduceLeDiff, false_implies, true_implies, not_false_eq_true, not_true_eq_false, and_true]
            refine hQ3 fb2 _ I4 d1 (rm_f r242 ?_)
            intro H Lg d nc ns J Q hJ hA hq
            obtain ⟨D, hD, hDk⟩ : ∃ D, d + (kr + 5) = D + 5 ∧ kr ≤ D := ⟨d + kr, by omega, by omega⟩
            rw [hD]
            try rw [hD] at hq
            exact r_242 hM' hdp hn9 hk hk1 a6 hJ (fun q => absurd q hps) (fun _ q => absurd q e6) (fun _ _ J1 c1 => hq J1 c1)
      · rcases b4 with rfl | rfl
        · exact hQ3 fb' g2 I2 a1 (rm_f hM (rf_g1 hM' hxf hdp a2))
        · exact hQ3 fb' g2 I2 a1 (rm_f hM (rf_g2 hM' hxf hdp a2))
  exact loop (mu K P L) 0 0 0 fb K P N S M C L I (Nat.le_refl _) (by omega) (Nat.le_refl _) (Or.inl rfl) hv h hp xs_rf mh_rf (fun i i1 i2 => absurd i1 (by omega)) hM0
end MJBW
