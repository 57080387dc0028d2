/-! A MACRO'S PARAMETERS, in both -/
def hdr (M : sgM) (st : Nat) : Prop := (∀ i, st ≤ i → i < M.2.2.2.1 → 2097152 ≤ M.1 i → M.1 i = 2097153 + np M.1 st (i - st)) ∧ np M.1 st (M.2.2.2.1 - st) ≤ 9 ∧ ∀ i, st ≤ i → i < M.2.2.2.1 → ¬ (256 ≤ M.1 i ∧ M.1 i < 768)
def z6 (e g : Nat) (u : Int32) (h n : Nat) (x : Int32) : mj_LV := [some (.ref 36), some (.int (nI e)), some (.int (nI g)), some (.int u), some (.int (nI h)), some (.int (nI n)), some (.int x), none, none, none]
def z5 (e g : Nat) (u : Int32) (h n : Nat) : mj_LV := [some (.ref 36), some (.int (nI e)), some (.int (nI g)), some (.int u), some (.int (nI h)), some (.int (nI n)), none, none, none, none]
theorem np_ad {M : sgM} {st v : Nat} (h : st ≤ M.2.2.2.1) : np (adM M v).1 st ((adM M v).2.2.2.1 - st) = np M.1 st (M.2.2.2.1 - st) + (if 2097152 ≤ v then 1 else 0) := by
  show np (ud M.1 M.2.2.2.1 v) st (M.2.2.2.1 + 1 - st) = _
  rw [show M.2.2.2.1 + 1 - st = (M.2.2.2.1 - st) + 1 by omega, np_s, show st + (M.2.2.2.1 - st) = M.2.2.2.1 by omega, ud_at, np_eq (g := M.1) (fun i i1 i2 => ud_ne (by omega))]
theorem hdr_ad {M : sgM} {st v : Nat} (h : hdr M st) (hs : st ≤ M.2.2.2.1) (h1 : 2097152 ≤ v → v = 2097153 + np M.1 st (M.2.2.2.1 - st) ∧ np M.1 st (M.2.2.2.1 - st) < 9) (h2 : ¬ (256 ≤ v ∧ v < 768)) : hdr (adM M v) st := by
  obtain ⟨a1, a2, a3⟩ := h
  have pool : ∀ i, i < M.2.2.2.1 → (adM M v).1 i = M.1 i := fun i hi => ud_ne (by omega)
  have npe : ∀ n, st + n ≤ M.2.2.2.1 → np (adM M v).1 st n = np M.1 st n := fun n hn => np_eq (fun i i1 i2 => pool i (by omega))
  have last : (adM M v).1 M.2.2.2.1 = v := ud_at
  refine ⟨fun i i1 i2 i3 => ?_, ?_, fun i i1 i2 => ?_⟩
  · have i2' : i < M.2.2.2.1 + 1 := i2
    by_cases e : i = M.2.2.2.1
    · rw [e] at i3 ⊢
      rw [last] at i3 ⊢
      rw [npe _ (by omega)]
      exact (h1 i3).1
    · rw [pool i (by omega)] at i3 ⊢
      rw [npe _ (by omega)]
      exact a1 i i1 (by omega) i3
  · rw [np_ad hs]
    split
    · have := (h1 (by assumption)).2
      omega
    · omega
  · have i2' : i < M.2.2.2.1 + 1 := i2
    by_cases e : i = M.2.2.2.1
    · rw [e, last]
      exact h2
    · rw [pool i (by omega)]
      exact a3 i i1 (by omega)
theorem cg_eq {t : Nat} : (if t < 3328 then t / 256 else 16) = cg t := rfl
theorem cg_le {t : Nat} : cg t ≤ 16 := by
  unfold cg
  split <;> omega
section MJPA
variable {X : mj_X} {d nc ns : Nat} {Q : mj_Q} {I I' J J' H : Nat → Nat → Int32} {Lg : Nat → Nat → Int64} {Rf : Nat → Nat → Option Nat} {fb fb' : Nat → Nat → Int32} {vb : Nat → Int32} {K K' K2 : Nat × Nat × Nat} {P P' P2 : List Nat} {E : sgE} {N N' N2 : sgN} {S S' S2 : sgS} {M M' : sgM} {C C' C2 : sgC} {O : sgO} {L L' L2 : sgL} {t n kc kr gl s' k a v xf h0 : Nat} {u : Int32}
/-- behind a fault -/
theorem f_177d (hM' : mj_Rt mm_R Rf) {D : Nat} {g' : sg} {w1 w5 w7 w8 : Option Value} {h0' : Value} (hJ : RD H g' J) (hq : Q (.inl none) (sh59, J, Lg, Rf, nc, ns)) : mj_rn X (mj_hd []) (mj_call X mj_P (mj_bi X) D) mb_177 334 [some (.ref 36), none, some (.int (nI gl)), some (.int u), some (.int (nI h0)), some (.int (nI n)), none, some (.int (nI k)), none, none] [] (sh59, J, Lg, Rf, nc, ns) Q := by
  have hm := mm_rf hM'
  refine mj_blk rfl ?_
  simp +decide only [mjs_0, mjs_1, mjs_2, mjs_3, mjs_ble, true_and, Bool.false_eq_true, if_false, if_true, Nat.reduceAdd, Nat.reduceSub, Nat.reduceLeDiff, false_implies, true_implies, not_false_eq_true, not_true_eq_false, and_true, mm_sh, hm, mjs_up_at, mjs_up_c, mjs_up_f]
  refine ⟨fun _ => mj_blk rfl ?_, fun q => absurd (rd_ne hJ) q⟩
  simp +decide only [mjs_0, mjs_1, mjs_2, mjs_3, mjs_ble, true_and, Bool.false_eq_true, if_false, if_true, Nat.reduceAdd, Nat.reduceSub, Nat.reduceLeDiff, false_implies, true_implies, not_false_eq_true, not_true_eq_false, and_true, mm_sh, hm, mjs_up_at, mjs_up_c, mjs_up_f]
  exact hq
theorem f_177p (hM' : mj_Rt mm_R Rf) {D : Nat} {g' : sg} (hJ : RD H g' J) (hq : Q (.inl none) (sh59, J, Lg, Rf, nc, ns)) : mj_rn X (mj_hd []) (mj_call X mj_P (mj_bi X) D) mb_177 135 (z5 xf gl u h0 n) [] (sh59, J, Lg, Rf, nc, ns) Q := by
  have hm := mm_rf hM'
  obtain ⟨k, hk⟩ := nI_ex (J 36 27)
  unfold z5
  refine mj_blk rfl ?_
  simp +decide only [mjs_0, mjs_1, mjs_2, mjs_3, mjs_ble, true_and, Bool.false_eq_true, if_false, if_true, Nat.reduceAdd, Nat.reduceSub, Nat.reduceLeDiff, false_implies, true_implies, not_false_eq_true, not_true_eq_false, and_true, mm_sh, hm, mjs_up_at, mjs_up_c, mjs_up_f, hk]
  refine mj_blk rfl ?_
  simp +decide only [mjs_0, mjs_1, mjs_2, mjs_3, mjs_ble, true_and, Bool.false_eq_true, if_false, if_true, Nat.reduceAdd, Nat.reduceSub, Nat.reduceLeDiff, false_implies, true_implies, not_false_eq_true, not_true_eq_false, and_true, mm_sh, hm, mjs_up_at, mjs_up_c, mjs_up_f]
  refine ⟨fun _ => mj_nv (f_177d (k := k) (gl := gl) (u := u) (h0 := h0) (n := n) (w1 := none) (w5 := none) (w7 := none) (w8 := none) (h0' := .ref 0) hM' hJ hq), fun q => absurd (rd_ne hJ) q⟩
theorem f_177a (hM' : mj_Rt mm_R Rf) {D : Nat} {g' : sg} {x : Int32} (hJ : RD H g' J) (hq : Q (.inl none) (sh59, J, Lg, Rf, nc, ns)) : mj_rn X (mj_hd []) (mj_call X mj_P (mj_bi X) D) mb_177 20 (z6 xf gl u h0 n x) [] (sh59, J, Lg, Rf, nc, ns) Q := by
  have hm := mm_rf hM'
  unfold z6
  refine mj_blk rfl ?_
  simp +decide only [mjs_0, mjs_1, mjs_2, mjs_3, mjs_ble, true_and, Bool.false_eq_true, if_false, if_true, Nat.reduceAdd, Nat.reduceSub, Nat.reduceLeDiff, false_implies, true_implies, not_false_eq_true, not_true_eq_false, and_true, mm_sh, hm, mjs_up_at, mjs_up_c, mjs_up_f]
  refine ⟨fun _ => mj_nv (f_177p (xf := xf) (gl := gl) (u := u) (h0 := h0) (n := n) hM' hJ hq), fun q => absurd (rd_ne hJ) q⟩
theorem f_177b (hM' : mj_Rt mm_R Rf) {D : Nat} {g' : sg} (hJ : RD H g' J) (hq : Q (.inl none) (sh59, J, Lg, Rf, nc, ns)) : mj_rn X (mj_hd []) (mj_call X mj_P (mj_bi X) (D + 5)) mb_177 126 (z5 xf gl u h0 n) [] (sh59, J, Lg, Rf, nc, ns) Q := by
  have hm := mm_rf hM'
  unfold z5
  refine mj_blk rfl ?_
  simp +decide only [mjs_0, mjs_1, mjs_2, mjs_3, mjs_ble, true_and, Bool.false_eq_true, if_false, if_true, Nat.reduceAdd, Nat.reduceSub, Nat.reduceLeDiff, false_implies, true_implies, not_false_eq_true, not_true_eq_false, and_true, mm_sh, hm, mjs_up_at, mjs_up_c, mjs_up_f]
  refine f_117 s59_36 (rd_ne hJ) (rd_nle hJ) ?_
  simp +decide only [mjs_0, mjs_1, mjs_2, mjs_3, mjs_ble, true_and, Bool.false_eq_true, if_false, if_true, Nat.reduceAdd, Nat.reduceSub, Nat.reduceLeDiff, false_implies, true_implies, not_false_eq_true, not_true_eq_false, and_true, mm_sh, hm, mjs_up_at, mjs_up_c, mjs_up_f]
  exact mj_nv (f_177a (xf := xf) (gl := gl) (u := u) (h0 := h0) (n := n) (x := -1) hM' hJ hq)
theorem f_177c (hM' : mj_Rt mm_R Rf) {D : Nat} {g' : sg} (hJ : RD H g' J) (hq : Q (.inl none) (sh59, J, Lg, Rf, nc, ns)) : mj_rn X (mj_hd []) (mj_call X mj_P (mj_bi X) (D + 5)) mb_177 107 (z5 xf gl u h0 n) [] (sh59, J, Lg, Rf, nc, ns) Q := by
  have hm := mm_rf hM'
  unfold z5
  refine mj_blk rfl ?_
  simp +decide only [mjs_0, mjs_1, mjs_2, mjs_3, mjs_ble, true_and, Bool.false_eq_true, if_false, if_true, Nat.reduceAdd, Nat.reduceSub, Nat.reduceLeDiff, false_implies, true_implies, not_false_eq_true, not_true_eq_false, and_true, mm_sh, hm, mjs_up_at, mjs_up_c, mjs_up_f]
  refine f_176 s59_36 (rd_ne hJ) ?_
  simp +decide only [mjs_0, mjs_1, mjs_2, mjs_3, mjs_ble, true_and, Bool.false_eq_true, if_false, if_true, Nat.reduceAdd, Nat.reduceSub, Nat.reduceLeDiff, false_implies, true_implies, not_false_eq_true, not_true_eq_false, and_true, mm_sh, hm, mjs_up_at, mjs_up_c, mjs_up_f]
  exact mj_nv (f_177b (xf := xf) (gl := gl) (u := u) (h0 := h0) (n := n) hM' hJ hq)
/-- defineParameters -/
theorem p_67 (hR : mj_Rt mp_R Rf) (hM' : mj_Rt mm_R Rf) (h12 : 12 ≤ kr) (hr' : nc + 1 ≤ X.2.2.1 ∧ ns + 6 ≤ X.2.2.2) {g0 : sg} {lv0 : mj_LV} (hv : gv (K, P, E, N, S, M, C, O, L)) (hst : M.2.1 M.2.2.2.2.1 = M.2.2.2.1) (hp : P.length ≤ 10000) (h : RC fb vb (K, P, E, N, S, M, C, O, L) I)
    (h0s : ∀ t g', RS X Rf 6 117 [.ref 36] (K, P, E, N, S, M, C, O, L) (some (.int (nI (rt t)))) g' → RM X Rf mb_177 (kr + 5) 0 lv0 [] g0 na 20 (z6 xf gl u h0 0 (nI (rt t))) [] g' na)
    (h0f : ∀ g', RF X Rf 6 117 [.ref 36] (K, P, E, N, S, M, C, O, L) (some (.int (-1))) g' → RMf X Rf mb_177 (kr + 5) 0 lv0 [] g0 na none g')
    (hQ1 : ∀ P' N' M' L' I' n, gv (K, P', E, N', S, M', C, O, L') → RC fb vb (K, P', E, N', S, M', C, O, L') I' → P'.length ≤ 9999 → xs K P N S C L K P' N' S C L' → mg M M' → hdr M' M.2.2.2.1 → np M'.1 M.2.2.2.1 (M'.2.2.2.1 - M.2.2.2.1) = n → RM X Rf mb_177 (kr + 5) 0 lv0 [] g0 na 135 (z5 xf gl u h0 n) [] (K, P', E, N', S, M', C, O, L') na → Q (.inl (some (.int (nI n)))) (sh59, I', Lg, Rf, nc, ns))
    (hQ3 : ∀ g' I', RCf fb vb g' I' → RMf X Rf mb_177 (kr + 5) 0 lv0 [] g0 na none g' → Q (.inr 500) (sh59, I', Lg, Rf, nc + 1, ns + 6)) :
    mj_call X mj_P (mj_bi X) (d + 4) 67 [.ref 34] (sh59, I, Lg, Rf, nc, ns) Q := by
  have hr := mc_rf hR
  have hm := mm_rf hM'
  have tle := tl_le (gv_d hv).2.2.2.2.2.2.2
  have loop : ∀ (m i t n : Nat) (P' : List Nat) (N' : sgN) (M' : sgM) (L' : sgL) (I' : Nat → Nat → Int32), P'.length + tl L' ≤ m → i + m ≤ 20000 → gv (K, P', E, N', S, M', C, O, L') → RC fb vb (K, P', E, N', S, M', C, O, L') I' → P'.length ≤ 9999 → xs K P N S C L K P' N' S C L' → mg M M' → hdr M' M.2.2.2.1 → np M'.1 M.2.2.2.1 (M'.2.2.2.1 - M.2.2.2.1) = n → tv N'.2.2 t → RM X Rf mb_177 (kr + 5) 0 lv0 [] g0 na 20 (z6 xf gl u h0 n (nI (rt t))) [] (K, P', E, N', S, M', C, O, L') na → mj_rn X (mj_hd []) (mj_call X mj_P (mj_bi X) (d + 3)) mb_67 13 [some (.ref 34), some (.int (nI n)), some (.int (nI t)), some (.int (nI i)), none] [] (sh59, I', Lg, Rf, nc, ns) Q := by
    intro m
    induction m using Nat.strongRecOn with
    | ind m ih =>
      intro i t n P' N' M1 L' I' b1 b2 hv' h' hp' hx hmg hhd hnp ht hM
      have hk : N'.2.2 ≤ 1036 := (gv_d hv').2.2.1.2.1
      have hk1 : 36 ≤ N'.2.2 := (gv_d hv').2.2.1.1
      have htl := tv_lt hk ht
      have hrt := rt_lt hk hk1 ht
      have hu : M.2.2.2.1 ≤ M1.2.2.2.1 := hmg.2.2.2.2
      have hu2 : M1.2.2.2.1 ≤ 10000 := (gv_d hv').2.2.2.2.1.2.2.1.2.1
      have hn9 : n ≤ 9 := by
        rw [← hnp]
        exact hhd.2.1
      have hcl := cg_le (t := t)
      have c1 : nI (cg t) = 1 ↔ cg t = 1 := nI_eq (b := 1) (by omega) (by decide)
      have c2 : nI (cg t) = 2 ↔ cg t = 2 := nI_eq (b := 2) (by omega) (by decide)
      have c6 : nI (cg t) = 6 ↔ cg t = 6 := nI_eq (b := 6) (by omega) (by decide)
      -- the next token, behind what was kept
      have next : ∀ (n' : Nat) (P2 : List Nat) (N2 : sgN) (M2 : sgM) (L2 : sgL) (I2 : Nat → Nat → Int32), P2.length + tl L2 ≤ P'.length + tl L' → gv (K, P2, E, N2, S, M2, C, O, L2) → RC fb vb (K, P2, E, N2, S, M2, C, O, L2) I2 → P2.length ≤ 9999 → xs K P N S C L K P2 N2 S C L2 → mg M M2 → hdr M2 M.2.2.2.1 → np M2.1 M.2.2.2.1 (M2.2.2.2.1 - M.2.2.2.1) = n' → RM X Rf mb_177 (kr + 5) 0 lv0 [] g0 na 126 (z5 xf gl u h0 n') [] (K, P2, E, N2, S, M2, C, O, L2) na → mj_rn X (mj_hd []) (mj_call X mj_P (mj_bi X) (d + 3)) mb_67 108 [some (.ref 34), some (.int (nI n')), none, some (.int (nI i)), none] [] (sh59, I2, Lg, Rf, nc, ns) Q := by
        intro n' P2 N2 M2 L2 I2 e1 e2 e3 e4 e5 e6 e7 e8 e9
        refine mj_blk rfl ?_
        simp +decide only [mjs_0, mjs_1, mjs_2, mjs_3, mjs_ble, true_and, Bool.false_eq_true, if_false, if_true, Nat.reduceAdd, Nat.reduceSub, Nat.reduceLeDiff, false_implies, true_implies, not_false_eq_true, not_true_eq_false, and_true, mc_sh, hr, mjs_up_at, mjs_up_c, mjs_up_f]
        refine p_85n hR hM' e2 e3 (by omega) hr' (fun t3 P3 N3 L3 I3 a1 a2 a3 a4 a5 a6 a7 a8 => ?_) (fun g3 I3 a1 a2 => ?_)
        · simp +decide only [mjs_0, mjs_1, mjs_2, mjs_3, mjs_ble, true_and, Bool.false_eq_true, if_false, if_true, Nat.reduceAdd, Nat.reduceSub, Nat.reduceLeDiff, false_implies, true_implies, not_false_eq_true, not_true_eq_false, and_true, nI_1]
          refine mj_nv (ih (P3.length + tl L3) (by omega) (i + 1) t3 n' P3 N3 M2 L3 I3 (Nat.le_refl _) (by omega) a1 a2 a5.1 (xs_tr e5 (xs_get a3 (Nat.le_of_lt a4) a6)) e6 e7 e8 a7 (rm_tr e9 ?_))
          intro H Lg d nc ns J Q hJ hA hq
          obtain ⟨D, hD, hDk⟩ : ∃ D, d + (kr + 5) = D + 5 ∧ kr ≤ D := ⟨d + kr, by omega, by omega⟩
          rw [hD]
          try rw [hD] at hq
          unfold z5
          unfold z6 at hq
          refine mj_blk rfl ?_
          simp +decide only [mjs_0, mjs_1, mjs_2, mjs_3, mjs_ble, true_and, Bool.false_eq_true, if_false, if_true, Nat.reduceAdd, Nat.reduceSub, Nat.reduceLeDiff, false_implies, true_implies, not_false_eq_true, not_true_eq_false, and_true, mm_sh, hm, mjs_up_at, mjs_up_c, mjs_up_f]
          refine rs_at a8 (by omega) hJ (fun J1 f1 => ?_)
          simp +decide only [mjs_0, mjs_1, mjs_2, mjs_3, mjs_ble, true_and, Bool.false_eq_true, if_false, if_true, Nat.reduceAdd, Nat.reduceSub, Nat.reduceLeDiff, false_implies, true_implies, not_false_eq_true, not_true_eq_false, and_true, mm_sh, hm, mjs_up_at, mjs_up_c, mjs_up_f]
          exact mj_nv (hq H J1 hx_rf f1 trivial)
        · simp +decide only [mjs_0, mjs_1, mjs_2, mjs_3, mjs_ble, true_and, Bool.false_eq_true, if_false, if_true, Nat.reduceAdd, Nat.reduceSub, Nat.reduceLeDiff, false_implies, true_implies, not_false_eq_true, not_true_eq_false, and_true]
          refine hQ3 g3 I3 a1 (rm_f e9 ?_)
          intro H Lg d nc ns J Q hJ hA hq
          obtain ⟨D, hD, hDk⟩ : ∃ D, d + (kr + 5) = D + 5 ∧ kr ≤ D := ⟨d + kr, by omega, by omega⟩
          rw [hD]
          try rw [hD] at hq
          unfold z5
          refine mj_blk rfl ?_
          simp +decide only [mjs_0, mjs_1, mjs_2, mjs_3, mjs_ble, true_and, Bool.false_eq_true, if_false, if_true, Nat.reduceAdd, Nat.reduceSub, Nat.reduceLeDiff, false_implies, true_implies, not_false_eq_true, not_true_eq_false, and_true, mm_sh, hm, mjs_up_at, mjs_up_c, mjs_up_f]
          refine rf_at a2 (by omega) hJ (fun J1 f1 => ?_)
          simp +decide only [mjs_0, mjs_1, mjs_2, mjs_3, mjs_ble, true_and, Bool.false_eq_true, if_false, if_true, Nat.reduceAdd, Nat.reduceSub, Nat.reduceLeDiff, false_implies, true_implies, not_false_eq_true, not_true_eq_false, and_true, mm_sh, hm, mjs_up_at, mjs_up_c, mjs_up_f]
          exact mj_nv (f_177a (xf := xf) (gl := gl) (u := u) (h0 := h0) (n := n') (x := -1) hM' f1 (hq J1 f1))
      refine mj_blk rfl ?_
      simp +decide only [mjs_0, mjs_1, mjs_2, mjs_3, mjs_ble, true_and, Bool.false_eq_true, if_false, if_true, Nat.reduceAdd, Nat.reduceSub, Nat.reduceLeDiff, false_implies, true_implies, not_false_eq_true, not_true_eq_false, and_true]
      refine ⟨fun q => absurd q (nI_ge (a := i) (b := 1000000000) (by omega) (by decide)), fun _ => mj_blk rfl ?_⟩
      simp +decide only [mjs_0, mjs_1, mjs_2, mjs_3, mjs_ble, true_and, Bool.false_eq_true, if_false, if_true, Nat.reduceAdd, Nat.reduceSub, Nat.reduceLeDiff, false_implies, true_implies, not_false_eq_true, not_true_eq_false, and_true]
      refine c_189 (by omega) ?_
      rw [cg_eq]
      simp +decide only [mjs_0, mjs_1, mjs_2, mjs_3, mjs_ble, true_and, Bool.false_eq_true, if_false, if_true, Nat.reduceAdd, Nat.reduceSub, Nat.reduceLeDiff, false_implies, true_implies, not_false_eq_true, not_true_eq_false, and_true]
      by_cases e1 : cg t = 1
      · refine ⟨fun _ => mj_blk rfl ?_, fun q => absurd (c1.mpr e1) q⟩
        simp +decide only [mjs_0, mjs_1, mjs_2, mjs_3, mjs_ble, true_and, Bool.false_eq_true, if_false, if_true, Nat.reduceAdd, Nat.reduceSub, Nat.reduceLeDiff, false_implies, true_implies, not_false_eq_true, not_true_eq_false, and_true]
        refine hQ1 P' N' M1 L' I' n hv' h' hp' hx hmg hhd hnp (rm_tr hM ?_)
        intro H Lg d nc ns J Q hJ hA hq
        obtain ⟨D, hD, hDk⟩ : ∃ D, d + (kr + 5) = D + 5 ∧ kr ≤ D := ⟨d + kr, by omega, by omega⟩
        rw [hD]
        try rw [hD] at hq
        unfold z6
        unfold z5 at hq
        refine mj_blk rfl ?_
        simp +decide only [mjs_0, mjs_1, mjs_2, mjs_3, mjs_ble, true_and, Bool.false_eq_true, if_false, if_true, Nat.reduceAdd, Nat.reduceSub, Nat.reduceLeDiff, false_implies, true_implies, not_false_eq_true, not_true_eq_false, and_true, mm_sh, hm, mjs_up_at, mjs_up_c, mjs_up_f, (rr_d hJ).1.2.2.2]
        refine mj_blk rfl ?_
        simp +decide only [mjs_0, mjs_1, mjs_2, mjs_3, mjs_ble, true_and, Bool.false_eq_true, if_false, if_true, Nat.reduceAdd, Nat.reduceSub, Nat.reduceLeDiff, false_implies, true_implies, not_false_eq_true, not_true_eq_false, and_true, mm_sh, hm, mjs_up_at, mjs_up_c, mjs_up_f]
        refine rq_121 (c := 1) hk hk1 ht (by decide) (fun _ => ?_) (fun q => absurd e1 q)
        simp +decide only [mjs_0, mjs_1, mjs_2, mjs_3, mjs_ble, true_and, Bool.false_eq_true, if_false, if_true, Nat.reduceAdd, Nat.reduceSub, Nat.reduceLeDiff, false_implies, true_implies, not_false_eq_true, not_true_eq_false, and_true, mm_sh, hm, mjs_up_at, mjs_up_c, mjs_up_f]
        exact mj_nv (hq H J hx_rf hJ trivial)
      · have r36 : RM X Rf mb_177 (kr + 5) 0 lv0 [] g0 na 36 (z6 xf gl u h0 n (nI (rt t))) [] (K, P', E, N', S, M1, C, O, L') na := by
          refine rm_tr hM ?_
          intro H Lg d nc ns J Q hJ hA hq
          obtain ⟨D, hD, hDk⟩ : ∃ D, d + (kr + 5) = D + 5 ∧ kr ≤ D := ⟨d + kr, by omega, by omega⟩
          rw [hD]
          try rw [hD] at hq
          unfold z6 at hq ⊢
          refine mj_blk rfl ?_
          simp +decide only [mjs_0, mjs_1, mjs_2, mjs_3, mjs_ble, true_and, Bool.false_eq_true, if_false, if_true, Nat.reduceAdd, Nat.reduceSub, Nat.reduceLeDiff, false_implies, true_implies, not_false_eq_true, not_true_eq_false, and_true, mm_sh, hm, mjs_up_at, mjs_up_c, mjs_up_f, (rr_d hJ).1.2.2.2]
          refine mj_blk rfl ?_
          simp +decide only [mjs_0, mjs_1, mjs_2, mjs_3, mjs_ble, true_and, Bool.false_eq_true, if_false, if_true, Nat.reduceAdd, Nat.reduceSub, Nat.reduceLeDiff, false_implies, true_implies, not_false_eq_true, not_true_eq_false, and_true, mm_sh, hm, mjs_up_at, mjs_up_c, mjs_up_f]
          refine rq_121 (c := 1) hk hk1 ht (by decide) (fun q => absurd q e1) (fun _ => ?_)
          simp +decide only [mjs_0, mjs_1, mjs_2, mjs_3, mjs_ble, true_and, Bool.false_eq_true, if_false, if_true, Nat.reduceAdd, Nat.reduceSub, Nat.reduceLeDiff, false_implies, true_implies, not_false_eq_true, not_true_eq_false, and_true, mm_sh, hm, mjs_up_at, mjs_up_c, mjs_up_f]
          exact mj_nv (hq H J hx_rf hJ trivial)
        refine ⟨fun q => absurd (c1.mp q) e1, fun _ => mj_blk rfl ?_⟩
        simp +decide only [mjs_0, mjs_1, mjs_2, mjs_3, mjs_ble, true_and, Bool.false_eq_true, if_false, if_true, Nat.reduceAdd, Nat.reduceSub, Nat.reduceLeDiff, false_implies, true_implies, not_false_eq_true, not_true_eq_false, and_true]
        refine c_189 (by omega) ?_
        rw [cg_eq]
        simp +decide only [mjs_0, mjs_1, mjs_2, mjs_3, mjs_ble, true_and, Bool.false_eq_true, if_false, if_true, Nat.reduceAdd, Nat.reduceSub, Nat.reduceLeDiff, false_implies, true_implies, not_false_eq_true, not_true_eq_false, and_true]
        by_cases e2 : cg t = 2
        · refine ⟨fun q => absurd (c2.mpr e2) q, fun _ => mj_blk rfl ?_⟩
          simp +decide only [mjs_0, mjs_1, mjs_2, mjs_3, mjs_ble, true_and, Bool.false_eq_true, if_false, if_true, Nat.reduceAdd, Nat.reduceSub, Nat.reduceLeDiff, false_implies, true_implies, not_false_eq_true, not_true_eq_false, and_true, mc_sh, hr, mjs_up_at, mjs_up_c, mjs_up_f]
          refine c_80 s59_1 hr' ?_
          simp +decide only [mjs_0, mjs_1, mjs_2, mjs_3, mjs_ble, true_and, Bool.false_eq_true, if_false, if_true, Nat.reduceAdd, Nat.reduceSub, Nat.reduceLeDiff, false_implies, true_implies, not_false_eq_true, not_true_eq_false, and_true]
          refine hQ3 _ _ (rc_f hv' h') (rm_f r36 ?_)
          intro H Lg d nc ns J Q hJ hA hq
          obtain ⟨D, hD, hDk⟩ : ∃ D, d + (kr + 5) = D + 5 ∧ kr ≤ D := ⟨d + kr, by omega, by omega⟩
          rw [hD]
          try rw [hD] at hq
          unfold z6
          refine mj_blk rfl ?_
          simp +decide only [mjs_0, mjs_1, mjs_2, mjs_3, mjs_ble, true_and, Bool.false_eq_true, if_false, if_true, Nat.reduceAdd, Nat.reduceSub, Nat.reduceLeDiff, false_implies, true_implies, not_false_eq_true, not_true_eq_false, and_true, mm_sh, hm, mjs_up_at, mjs_up_c, mjs_up_f]
          refine rq_121 (c := 2) hk hk1 ht (by decide) (fun _ => ?_) (fun q => absurd e2 q)
          simp +decide only [mjs_0, mjs_1, mjs_2, mjs_3, mjs_ble, true_and, Bool.false_eq_true, if_false, if_true, Nat.reduceAdd, Nat.reduceSub, Nat.reduceLeDiff, false_implies, true_implies, not_false_eq_true, not_true_eq_false, and_true, mm_sh, hm, mjs_up_at, mjs_up_c, mjs_up_f]
          refine mj_blk rfl ?_
          simp +decide only [mjs_0, mjs_1, mjs_2, mjs_3, mjs_ble, true_and, Bool.false_eq_true, if_false, if_true, Nat.reduceAdd, Nat.reduceSub, Nat.reduceLeDiff, false_implies, true_implies, not_false_eq_true, not_true_eq_false, and_true, mm_sh, hm, mjs_up_at, mjs_up_c, mjs_up_f]
          refine c_106 s59_36 ?_
          rw [if_pos (rr_d hJ).1.2.2.2]
          have hJ5 := rr_f (f := 5) (by decide) (by decide) hJ
          simp +decide only [mjs_0, mjs_1, mjs_2, mjs_3, mjs_ble, true_and, Bool.false_eq_true, if_false, if_true, Nat.reduceAdd, Nat.reduceSub, Nat.reduceLeDiff, false_implies, true_implies, not_false_eq_true, not_true_eq_false, and_true, mm_sh, hm, mjs_up_at, mjs_up_c, mjs_up_f]
          exact mj_nv (f_177b (xf := xf) (gl := gl) (u := u) (h0 := h0) (n := n) hM' hJ5 (hq _ hJ5))
        · have r53 : RM X Rf mb_177 (kr + 5) 0 lv0 [] g0 na 53 (z6 xf gl u h0 n (nI (rt t))) [] (K, P', E, N', S, M1, C, O, L') na := by
            refine rm_tr r36 ?_
            intro H Lg d nc ns J Q hJ hA hq
            obtain ⟨D, hD, hDk⟩ : ∃ D, d + (kr + 5) = D + 5 ∧ kr ≤ D := ⟨d + kr, by omega, by omega⟩
            rw [hD]
            try rw [hD] at hq
            unfold z6 at hq ⊢
            refine mj_blk rfl ?_
            simp +decide only [mjs_0, mjs_1, mjs_2, mjs_3, mjs_ble, true_and, Bool.false_eq_true, if_false, if_true, Nat.reduceAdd, Nat.reduceSub, Nat.reduceLeDiff, false_implies, true_implies, not_false_eq_true, not_true_eq_false, and_true, mm_sh, hm, mjs_up_at, mjs_up_c, mjs_up_f]
            refine rq_121 (c := 2) hk hk1 ht (by decide) (fun q => absurd q e2) (fun _ => ?_)
            simp +decide only [mjs_0, mjs_1, mjs_2, mjs_3, mjs_ble, true_and, Bool.false_eq_true, if_false, if_true, Nat.reduceAdd, Nat.reduceSub, Nat.reduceLeDiff, false_implies, true_implies, not_false_eq_true, not_true_eq_false, and_true, mm_sh, hm, mjs_up_at, mjs_up_c, mjs_up_f]
            exact mj_nv (hq H J hx_rf hJ trivial)
          refine ⟨fun _ => mj_blk rfl ?_, fun q => absurd (fun q => e2 (c2.mp q)) q⟩
          simp +decide only [mjs_0, mjs_1, mjs_2, mjs_3, mjs_ble, true_and, Bool.false_eq_true, if_false, if_true, Nat.reduceAdd, Nat.reduceSub, Nat.reduceLeDiff, false_implies, true_implies, not_false_eq_true, not_true_eq_false, and_true]
          by_cases e6 : cg t = 6
          · -- a parameter
            have r63 : RM X Rf mb_177 (kr + 5) 0 lv0 [] g0 na 63 (z5 xf gl u h0 n) [] (K, P', E, N', S, M1, C, O, L') na := by
              refine rm_tr r53 ?_
              intro H Lg d nc ns J Q hJ hA hq
              obtain ⟨D, hD, hDk⟩ : ∃ D, d + (kr + 5) = D + 5 ∧ kr ≤ D := ⟨d + kr, by omega, by omega⟩
              rw [hD]
              try rw [hD] at hq
              unfold z6
              unfold z5 at hq
              refine mj_blk rfl ?_
              simp +decide only [mjs_0, mjs_1, mjs_2, mjs_3, mjs_ble, true_and, Bool.false_eq_true, if_false, if_true, Nat.reduceAdd, Nat.reduceSub, Nat.reduceLeDiff, false_implies, true_implies, not_false_eq_true, not_true_eq_false, and_true, mm_sh, hm, mjs_up_at, mjs_up_c, mjs_up_f]
              refine rq_121 (c := 6) hk hk1 ht (by decide) (fun _ => ?_) (fun q => absurd e6 q)
              simp +decide only [mjs_0, mjs_1, mjs_2, mjs_3, mjs_ble, true_and, Bool.false_eq_true, if_false, if_true, Nat.reduceAdd, Nat.reduceSub, Nat.reduceLeDiff, false_implies, true_implies, not_false_eq_true, not_true_eq_false, and_true, mm_sh, hm, mjs_up_at, mjs_up_c, mjs_up_f]
              exact mj_nv (hq H J hx_rf hJ trivial)
            refine ⟨fun q => absurd (c6.mpr e6) q, fun _ => mj_blk rfl ?_⟩
            simp +decide only [mjs_0, mjs_1, mjs_2, mjs_3, mjs_ble, true_and, Bool.false_eq_true, if_false, if_true, Nat.reduceAdd, Nat.reduceSub, Nat.reduceLeDiff, false_implies, true_implies, not_false_eq_true, not_true_eq_false, and_true, mc_sh, hr, mjs_up_at, mjs_up_c, mjs_up_f, nI_1]
            refine p_85n hR hM' hv' h' (by omega) hr' (fun t3 P3 N3 L3 I3 a1 a2 a3 a4 a5 a6 a7 a8 => ?_) (fun g3 I3 a1 a2 => ?_)
            · have hk3 : N3.2.2 ≤ 1036 := (gv_d a1).2.2.1.2.1
              have hk31 : 36 ≤ N3.2.2 := (gv_d a1).2.2.1.1
              have htl3 := tv_lt hk3 a7
              have ho : ov N3.2.2 (some t3) := fun u hu => by cases hu; exact a7
              have hx3 := xs_tr hx (xs_get (K := K) (S := S) (C := C) a3 (Nat.le_of_lt a4) a6)
              simp +decide only [mjs_0, mjs_1, mjs_2, mjs_3, mjs_ble, true_and, Bool.false_eq_true, if_false, if_true, Nat.reduceAdd, Nat.reduceSub, Nat.reduceLeDiff, false_implies, true_implies, not_false_eq_true, not_true_eq_false, and_true]
              refine cq_191 (o := some t3) (fun u hu => by cases hu; omega) ?_
              by_cases ed : t3 = 3121 + n ∧ n < 9
              · have hdg : isdg (some t3) := ⟨t3, rfl, by omega, by omega⟩
                rw [show tdg (some t3) = nI (t3 - 3120) from if_pos ⟨by omega, by omega⟩, show t3 - 3120 = n + 1 by omega]
                have ert : rt t3 = t3 := by
                  unfold rt rb
                  rw [if_neg (by omega), if_pos (by omega)]
                have f1 : nI t3 - nI t3 / 256 * 256 = nI (t3 % 256) := pk_rem (d := 256) (by omega) (by decide) (by decide)
                have r107 : RM X Rf mb_177 (kr + 5) 0 lv0 [] g0 na 107 (z5 xf gl u h0 (n + 1)) [] (K, P3, E, N3, S, M1, C, O, L3) na := by
                  refine rm_tr r63 ?_
                  intro H Lg d nc ns J Q hJ hA hq
                  obtain ⟨D, hD, hDk⟩ : ∃ D, d + (kr + 5) = D + 5 ∧ kr ≤ D := ⟨d + kr, by omega, by omega⟩
                  rw [hD]
                  try rw [hD] at hq
                  unfold z5 at hq ⊢
                  refine mj_blk rfl ?_
                  simp +decide only [mjs_0, mjs_1, mjs_2, mjs_3, mjs_ble, true_and, Bool.false_eq_true, if_false, if_true, Nat.reduceAdd, Nat.reduceSub, Nat.reduceLeDiff, false_implies, true_implies, not_false_eq_true, not_true_eq_false, and_true, mm_sh, hm, mjs_up_at, mjs_up_c, mjs_up_f]
                  refine rs_at a8 (by omega) hJ (fun J1 f2 => ?_)
                  simp +decide only [mjs_0, mjs_1, mjs_2, mjs_3, mjs_ble, true_and, Bool.false_eq_true, if_false, if_true, Nat.reduceAdd, Nat.reduceSub, Nat.reduceLeDiff, false_implies, true_implies, not_false_eq_true, not_true_eq_false, and_true, mm_sh, hm, mjs_up_at, mjs_up_c, mjs_up_f, nI_1, (rr_d f2).1.2.2.2]
                  refine mj_blk rfl ?_
                  simp +decide only [mjs_0, mjs_1, mjs_2, mjs_3, mjs_ble, true_and, Bool.false_eq_true, if_false, if_true, Nat.reduceAdd, Nat.reduceSub, Nat.reduceLeDiff, false_implies, true_implies, not_false_eq_true, not_true_eq_false, and_true, mm_sh, hm, mjs_up_at, mjs_up_c, mjs_up_f]
                  refine rq_157 (o := some t3) hk3 hk31 ho (fun _ => ?_) (fun q => absurd hdg q)
                  simp +decide only [mjs_0, mjs_1, mjs_2, mjs_3, mjs_ble, true_and, Bool.false_eq_true, if_false, if_true, Nat.reduceAdd, Nat.reduceSub, Nat.reduceLeDiff, false_implies, true_implies, not_false_eq_true, not_true_eq_false, and_true, mm_sh, hm, mjs_up_at, mjs_up_c, mjs_up_f]
                  refine mj_blk rfl ?_
                  rw [ert]
                  simp +decide only [mjs_0, mjs_1, mjs_2, mjs_3, mjs_ble, true_and, Bool.false_eq_true, if_false, if_true, Nat.reduceAdd, Nat.reduceSub, Nat.reduceLeDiff, false_implies, true_implies, not_false_eq_true, not_true_eq_false, and_true, mm_sh, hm, mjs_up_at, mjs_up_c, mjs_up_f, f1, show (48 : Int32) + nI (n + 1) = nI (48 + (n + 1)) from nI_add 48 (n + 1)]
                  refine ⟨fun _ => mj_nv (hq H J1 hx_rf f2 trivial), fun q => absurd (congrArg nI (show t3 % 256 = 48 + (n + 1) by omega)) q⟩
                simp +decide only [mjs_0, mjs_1, mjs_2, mjs_3, mjs_ble, true_and, Bool.false_eq_true, if_false, if_true, Nat.reduceAdd, Nat.reduceSub, Nat.reduceLeDiff, false_implies, true_implies, not_false_eq_true, not_true_eq_false, and_true]
                refine mj_blk rfl ?_
                simp +decide only [mjs_0, mjs_1, mjs_2, mjs_3, mjs_ble, true_and, Bool.false_eq_true, if_false, if_true, Nat.reduceAdd, Nat.reduceSub, Nat.reduceLeDiff, false_implies, true_implies, not_false_eq_true, not_true_eq_false, and_true, mc_sh, hr, mjs_up_at, mjs_up_c, mjs_up_f, show (2097152 : Int32) + nI (n + 1) = nI (2097152 + (n + 1)) from nI_add 2097152 (n + 1)]
                have ebr : mr_ba (262144 + (n + 1)) = rt (2097152 + (n + 1)) := by
                  unfold mr_ba rt rb
                  rw [if_neg (by omega), if_neg (by omega), if_neg (by omega), if_neg (by omega), if_pos (by omega)]
                  omega
                refine cq_50 (v := 2097152 + (n + 1)) hR a1 a2 hr' (fun hlt I4 d1 => ?_) (fun he I4 d1 => ?_)
                · simp +decide only [mjs_0, mjs_1, mjs_2, mjs_3, mjs_ble, true_and, Bool.false_eq_true, if_false, if_true, Nat.reduceAdd, Nat.reduceSub, Nat.reduceLeDiff, false_implies, true_implies, not_false_eq_true, not_true_eq_false, and_true, mc_sh, hr, mjs_up_at, mjs_up_c, mjs_up_f]
                  refine mj_nv (next (n + 1) P3 N3 (adM M1 (2097152 + (n + 1))) L3 I4 (by omega) (gv_ad a1 hlt (Or.inr ⟨by omega, by omega⟩)) d1 a5.1 hx3 (mg_tr hmg mg_ad) (hdr_ad hhd hu (fun _ => by rw [hnp]; omega) (by omega)) (by rw [np_ad hu, hnp, if_pos (by omega)]) (rm_tr r107 ?_))
                  intro H Lg d nc ns J Q hJ hA hq
                  obtain ⟨D, hD, hDk⟩ : ∃ D, d + (kr + 5) = D + 5 ∧ kr ≤ D := ⟨d + kr, by omega, by omega⟩
                  rw [hD]
                  try rw [hD] at hq
                  unfold z5 at hq ⊢
                  refine mj_blk rfl ?_
                  simp +decide only [mjs_0, mjs_1, mjs_2, mjs_3, mjs_ble, true_and, Bool.false_eq_true, if_false, if_true, Nat.reduceAdd, Nat.reduceSub, Nat.reduceLeDiff, false_implies, true_implies, not_false_eq_true, not_true_eq_false, and_true, mm_sh, hm, mjs_up_at, mjs_up_c, mjs_up_f, show (262144 : Int32) + nI (n + 1) = nI (262144 + (n + 1)) from nI_add 262144 (n + 1)]
                  refine rq_176 (v := 2097152 + (n + 1)) hM' a1 hJ (by omega) ebr (fun _ J1 f2 => ?_) (fun q => absurd q (by omega))
                  simp +decide only [mjs_0, mjs_1, mjs_2, mjs_3, mjs_ble, true_and, Bool.false_eq_true, if_false, if_true, Nat.reduceAdd, Nat.reduceSub, Nat.reduceLeDiff, false_implies, true_implies, not_false_eq_true, not_true_eq_false, and_true, mm_sh, hm, mjs_up_at, mjs_up_c, mjs_up_f]
                  exact mj_nv (hq H J1 hx_rf f2 trivial)
                · simp +decide only [mjs_0, mjs_1, mjs_2, mjs_3, mjs_ble, true_and, Bool.false_eq_true, if_false, if_true, Nat.reduceAdd, Nat.reduceSub, Nat.reduceLeDiff, false_implies, true_implies, not_false_eq_true, not_true_eq_false, and_true]
                  refine hQ3 _ I4 d1 (rm_f r107 ?_)
                  intro H Lg d nc ns J Q hJ hA hq
                  obtain ⟨D, hD, hDk⟩ : ∃ D, d + (kr + 5) = D + 5 ∧ kr ≤ D := ⟨d + kr, by omega, by omega⟩
                  rw [hD]
                  try rw [hD] at hq
                  unfold z5
                  refine mj_blk rfl ?_
                  simp +decide only [mjs_0, mjs_1, mjs_2, mjs_3, mjs_ble, true_and, Bool.false_eq_true, if_false, if_true, Nat.reduceAdd, Nat.reduceSub, Nat.reduceLeDiff, false_implies, true_implies, not_false_eq_true, not_true_eq_false, and_true, mm_sh, hm, mjs_up_at, mjs_up_c, mjs_up_f, show (262144 : Int32) + nI (n + 1) = nI (262144 + (n + 1)) from nI_add 262144 (n + 1)]
                  refine rq_176 (v := 2097152 + (n + 1)) hM' a1 hJ (by omega) ebr (fun q => absurd q (by omega)) (fun _ J1 f2 => ?_)
                  simp +decide only [mjs_0, mjs_1, mjs_2, mjs_3, mjs_ble, true_and, Bool.false_eq_true, if_false, if_true, Nat.reduceAdd, Nat.reduceSub, Nat.reduceLeDiff, false_implies, true_implies, not_false_eq_true, not_true_eq_false, and_true, mm_sh, hm, mjs_up_at, mjs_up_c, mjs_up_f]
                  exact mj_nv (f_177b (xf := xf) (gl := gl) (u := u) (h0 := h0) (n := n + 1) hM' f2 (hq J1 f2))
              · have ene : ¬ tdg (some t3) = nI (n + 1) := by
                  intro q
                  have q : (if 3120 ≤ t3 ∧ t3 ≤ 3129 then nI (t3 - 3120) else -1) = nI (n + 1) := q
                  by_cases e9 : 3120 ≤ t3 ∧ t3 ≤ 3129
                  · rw [if_pos e9] at q
                    have := (nI_eq (by omega) (by omega)).mp q
                    omega
                  · rw [if_neg e9] at q
                    exact absurd (nI_pos (n := n + 1) (by omega)) (by rw [← q]; decide)
                simp +decide only [mjs_0, mjs_1, mjs_2, mjs_3, mjs_ble, true_and, Bool.false_eq_true, if_false, if_true, Nat.reduceAdd, Nat.reduceSub, Nat.reduceLeDiff, false_implies, true_implies, not_false_eq_true, not_true_eq_false, and_true]
                refine ⟨fun q => absurd q ene, fun _ => mj_blk rfl ?_⟩
                simp +decide only [mjs_0, mjs_1, mjs_2, mjs_3, mjs_ble, true_and, Bool.false_eq_true, if_false, if_true, Nat.reduceAdd, Nat.reduceSub, Nat.reduceLeDiff, false_implies, true_implies, not_false_eq_true, not_true_eq_false, and_true, mc_sh, hr, mjs_up_at, mjs_up_c, mjs_up_f]
                refine c_80 s59_1 hr' ?_
                simp +decide only [mjs_0, mjs_1, mjs_2, mjs_3, mjs_ble, true_and, Bool.false_eq_true, if_false, if_true, Nat.reduceAdd, Nat.reduceSub, Nat.reduceLeDiff, false_implies, true_implies, not_false_eq_true, not_true_eq_false, and_true]
                refine hQ3 _ _ (rc_f a1 a2) (rm_f r63 ?_)
                intro H Lg d nc ns J Q hJ hA hq
                obtain ⟨D, hD, hDk⟩ : ∃ D, d + (kr + 5) = D + 5 ∧ kr ≤ D := ⟨d + kr, by omega, by omega⟩
                rw [hD]
                try rw [hD] at hq
                unfold z5
                have bad : ∀ (J1 : Nat → Nat → Int32), RR H (K, P3, E, N3, S, M1, C, O, L3) J1 → mj_rn X (mj_hd []) (mj_call X mj_P (mj_bi X) (D + 5)) mb_177 101 (z5 xf gl u h0 (n + 1)) [] (sh59, J1, Lg, Rf, nc, ns) Q := by
                  intro J1 f2
                  unfold z5
                  refine mj_blk rfl ?_
                  simp +decide only [mjs_0, mjs_1, mjs_2, mjs_3, mjs_ble, true_and, Bool.false_eq_true, if_false, if_true, Nat.reduceAdd, Nat.reduceSub, Nat.reduceLeDiff, false_implies, true_implies, not_false_eq_true, not_true_eq_false, and_true, mm_sh, hm, mjs_up_at, mjs_up_c, mjs_up_f]
                  refine c_106 s59_36 ?_
                  rw [if_pos (rr_d f2).1.2.2.2]
                  have hJ12 := rr_f (f := 12) (by decide) (by decide) f2
                  simp +decide only [mjs_0, mjs_1, mjs_2, mjs_3, mjs_ble, true_and, Bool.false_eq_true, if_false, if_true, Nat.reduceAdd, Nat.reduceSub, Nat.reduceLeDiff, false_implies, true_implies, not_false_eq_true, not_true_eq_false, and_true, mm_sh, hm, mjs_up_at, mjs_up_c, mjs_up_f]
                  exact mj_nv (f_177c (xf := xf) (gl := gl) (u := u) (h0 := h0) (n := n + 1) hM' hJ12 (hq _ hJ12))
                refine mj_blk rfl ?_
                simp +decide only [mjs_0, mjs_1, mjs_2, mjs_3, mjs_ble, true_and, Bool.false_eq_true, if_false, if_true, Nat.reduceAdd, Nat.reduceSub, Nat.reduceLeDiff, false_implies, true_implies, not_false_eq_true, not_true_eq_false, and_true, mm_sh, hm, mjs_up_at, mjs_up_c, mjs_up_f]
                refine rs_at a8 (by omega) hJ (fun J1 f2 => ?_)
                simp +decide only [mjs_0, mjs_1, mjs_2, mjs_3, mjs_ble, true_and, Bool.false_eq_true, if_false, if_true, Nat.reduceAdd, Nat.reduceSub, Nat.reduceLeDiff, false_implies, true_implies, not_false_eq_true, not_true_eq_false, and_true, mm_sh, hm, mjs_up_at, mjs_up_c, mjs_up_f, nI_1, (rr_d f2).1.2.2.2]
                refine mj_blk rfl ?_
                simp +decide only [mjs_0, mjs_1, mjs_2, mjs_3, mjs_ble, true_and, Bool.false_eq_true, if_false, if_true, Nat.reduceAdd, Nat.reduceSub, Nat.reduceLeDiff, false_implies, true_implies, not_false_eq_true, not_true_eq_false, and_true, mm_sh, hm, mjs_up_at, mjs_up_c, mjs_up_f]
                refine rq_157 (o := some t3) hk3 hk31 ho (fun hdg => ?_) (fun _ => ?_)
                · obtain ⟨t4, e4, e5, e7⟩ := hdg
                  cases e4
                  have ert : rt t3 = t3 := by
                    unfold rt rb
                    rw [if_neg (by omega), if_pos (by omega)]
                  have f1 : nI t3 - nI t3 / 256 * 256 = nI (t3 % 256) := pk_rem (d := 256) (by omega) (by decide) (by decide)
                  simp +decide only [mjs_0, mjs_1, mjs_2, mjs_3, mjs_ble, true_and, Bool.false_eq_true, if_false, if_true, Nat.reduceAdd, Nat.reduceSub, Nat.reduceLeDiff, false_implies, true_implies, not_false_eq_true, not_true_eq_false, and_true, mm_sh, hm, mjs_up_at, mjs_up_c, mjs_up_f]
                  refine mj_blk rfl ?_
                  rw [ert]
                  simp +decide only [mjs_0, mjs_1, mjs_2, mjs_3, mjs_ble, true_and, Bool.false_eq_true, if_false, if_true, Nat.reduceAdd, Nat.reduceSub, Nat.reduceLeDiff, false_implies, true_implies, not_false_eq_true, not_true_eq_false, and_true, mm_sh, hm, mjs_up_at, mjs_up_c, mjs_up_f, f1, show (48 : Int32) + nI (n + 1) = nI (48 + (n + 1)) from nI_add 48 (n + 1)]
                  exact ⟨fun q => absurd ((nI_eq (by omega) (by omega)).mp q) (by omega), fun _ => mj_nv (bad J1 f2)⟩
                · simp +decide only [mjs_0, mjs_1, mjs_2, mjs_3, mjs_ble, true_and, Bool.false_eq_true, if_false, if_true, Nat.reduceAdd, Nat.reduceSub, Nat.reduceLeDiff, false_implies, true_implies, not_false_eq_true, not_true_eq_false, and_true, mm_sh, hm, mjs_up_at, mjs_up_c, mjs_up_f]
                  exact mj_nv (bad J1 f2)
            · simp +decide only [mjs_0, mjs_1, mjs_2, mjs_3, mjs_ble, true_and, Bool.false_eq_true, if_false, if_true, Nat.reduceAdd, Nat.reduceSub, Nat.reduceLeDiff, false_implies, true_implies, not_false_eq_true, not_true_eq_false, and_true]
              refine hQ3 g3 I3 a1 (rm_f r63 ?_)
              intro H Lg d nc ns J Q hJ hA hq
              obtain ⟨D, hD, hDk⟩ : ∃ D, d + (kr + 5) = D + 5 ∧ kr ≤ D := ⟨d + kr, by omega, by omega⟩
              rw [hD]
              try rw [hD] at hq
              unfold z5
              refine mj_blk rfl ?_
              simp +decide only [mjs_0, mjs_1, mjs_2, mjs_3, mjs_ble, true_and, Bool.false_eq_true, if_false, if_true, Nat.reduceAdd, Nat.reduceSub, Nat.reduceLeDiff, false_implies, true_implies, not_false_eq_true, not_true_eq_false, and_true, mm_sh, hm, mjs_up_at, mjs_up_c, mjs_up_f]
              refine rf_at a2 (by omega) hJ (fun J1 f1 => ?_)
              simp +decide only [mjs_0, mjs_1, mjs_2, mjs_3, mjs_ble, true_and, Bool.false_eq_true, if_false, if_true, Nat.reduceAdd, Nat.reduceSub, Nat.reduceLeDiff, false_implies, true_implies, not_false_eq_true, not_true_eq_false, and_true, mm_sh, hm, mjs_up_at, mjs_up_c, mjs_up_f, nI_1]
              exact ⟨fun _ => mj_nv (f_177c (xf := xf) (gl := gl) (u := u) (h0 := h0) (n := n + 1) hM' f1 (hq J1 f1)), fun q => absurd (rd_ne f1) q⟩
          · -- a token
            have r120 : RM X Rf mb_177 (kr + 5) 0 lv0 [] g0 na 120 (z6 xf gl u h0 n (nI (rt t))) [] (K, P', E, N', S, M1, C, O, L') na := by
              refine rm_tr r53 ?_
              intro H Lg d nc ns J Q hJ hA hq
              obtain ⟨D, hD, hDk⟩ : ∃ D, d + (kr + 5) = D + 5 ∧ kr ≤ D := ⟨d + kr, by omega, by omega⟩
              rw [hD]
              try rw [hD] at hq
              unfold z6 at hq ⊢
              refine mj_blk rfl ?_
              simp +decide only [mjs_0, mjs_1, mjs_2, mjs_3, mjs_ble, true_and, Bool.false_eq_true, if_false, if_true, Nat.reduceAdd, Nat.reduceSub, Nat.reduceLeDiff, false_implies, true_implies, not_false_eq_true, not_true_eq_false, and_true, mm_sh, hm, mjs_up_at, mjs_up_c, mjs_up_f]
              refine rq_121 (c := 6) hk hk1 ht (by decide) (fun q => absurd q e6) (fun _ => ?_)
              simp +decide only [mjs_0, mjs_1, mjs_2, mjs_3, mjs_ble, true_and, Bool.false_eq_true, if_false, if_true, Nat.reduceAdd, Nat.reduceSub, Nat.reduceLeDiff, false_implies, true_implies, not_false_eq_true, not_true_eq_false, and_true, mm_sh, hm, mjs_up_at, mjs_up_c, mjs_up_f]
              exact mj_nv (hq H J hx_rf hJ trivial)
            obtain ⟨s6, s7⟩ := rt_pl hk hk1 ht
            have s5 := (pl_sl hk ht).2.2.2.2
            have spl : (if t / 1048576 % 2 = 1 then t - 1048576 else t) = pl t := rfl
            have hplb : ¬ (256 ≤ pl t ∧ pl t < 768) := by
              intro q
              have hlt : t < 3328 := (pl_sl hk ht).2.2.2.1.mpr (by omega)
              have : pl t = t := by
                unfold pl
                rw [if_neg (by omega)]
              unfold cg at e1 e2
              rw [if_pos hlt] at e1 e2
              omega
            have hpl := tb_lt hk s7
            refine ⟨fun _ => mj_blk rfl ?_, fun q => absurd (fun q => e6 (c6.mp q)) q⟩
            simp +decide only [mjs_0, mjs_1, mjs_2, mjs_3, mjs_ble, true_and, Bool.false_eq_true, if_false, if_true, Nat.reduceAdd, Nat.reduceSub, Nat.reduceLeDiff, false_implies, true_implies, not_false_eq_true, not_true_eq_false, and_true, mc_sh, hr, mjs_up_at, mjs_up_c, mjs_up_f]
            refine c_183 (by omega) ?_
            rw [spl]
            simp +decide only [mjs_0, mjs_1, mjs_2, mjs_3, mjs_ble, true_and, Bool.false_eq_true, if_false, if_true, Nat.reduceAdd, Nat.reduceSub, Nat.reduceLeDiff, false_implies, true_implies, not_false_eq_true, not_true_eq_false, and_true, mc_sh, hr, mjs_up_at, mjs_up_c, mjs_up_f]
            refine cq_50 (v := pl t) hR hv' h' hr' (fun hlt I4 d1 => ?_) (fun he I4 d1 => ?_)
            · simp +decide only [mjs_0, mjs_1, mjs_2, mjs_3, mjs_ble, true_and, Bool.false_eq_true, if_false, if_true, Nat.reduceAdd, Nat.reduceSub, Nat.reduceLeDiff, false_implies, true_implies, not_false_eq_true, not_true_eq_false, and_true, mc_sh, hr, mjs_up_at, mjs_up_c, mjs_up_f]
              refine mj_nv (next n P' N' (adM M1 (pl t)) L' I4 (Nat.le_refl _) (gv_ad hv' hlt (Or.inl s7)) d1 hp' hx (mg_tr hmg mg_ad) (hdr_ad hhd hu (fun q => absurd q (by omega)) hplb) (by rw [np_ad hu, hnp, if_neg (by omega)]; rfl) (rm_tr r120 ?_))
              intro H Lg d nc ns J Q hJ hA hq
              obtain ⟨D, hD, hDk⟩ : ∃ D, d + (kr + 5) = D + 5 ∧ kr ≤ D := ⟨d + kr, by omega, by omega⟩
              rw [hD]
              try rw [hD] at hq
              unfold z6
              unfold z5 at hq
              refine mj_blk rfl ?_
              simp +decide only [mjs_0, mjs_1, mjs_2, mjs_3, mjs_ble, true_and, Bool.false_eq_true, if_false, if_true, Nat.reduceAdd, Nat.reduceSub, Nat.reduceLeDiff, false_implies, true_implies, not_false_eq_true, not_true_eq_false, and_true, mm_sh, hm, mjs_up_at, mjs_up_c, mjs_up_f]
              refine rq_176 (v := pl t) hM' hv' hJ (by omega) (s6.trans s5.symm) (fun _ J1 f2 => ?_) (fun q => absurd q (by omega))
              simp +decide only [mjs_0, mjs_1, mjs_2, mjs_3, mjs_ble, true_and, Bool.false_eq_true, if_false, if_true, Nat.reduceAdd, Nat.reduceSub, Nat.reduceLeDiff, false_implies, true_implies, not_false_eq_true, not_true_eq_false, and_true, mm_sh, hm, mjs_up_at, mjs_up_c, mjs_up_f]
              exact mj_nv (hq H J1 hx_rf f2 trivial)
            · simp +decide only [mjs_0, mjs_1, mjs_2, mjs_3, mjs_ble, true_and, Bool.false_eq_true, if_false, if_true, Nat.reduceAdd, Nat.reduceSub, Nat.reduceLeDiff, false_implies, true_implies, not_false_eq_true, not_true_eq_false, and_true]
              refine hQ3 _ I4 d1 (rm_f r120 ?_)
              intro H Lg d nc ns J Q hJ hA hq
              obtain ⟨D, hD, hDk⟩ : ∃ D, d + (kr + 5) = D + 5 ∧ kr ≤ D := ⟨d + kr, by omega, by omega⟩
              rw [hD]
              try rw [hD] at hq
              unfold z6
              refine mj_blk rfl ?_
              simp +decide only [mjs_0, mjs_1, mjs_2, mjs_3, mjs_ble, true_and, Bool.false_eq_true, if_false, if_true, Nat.reduceAdd, Nat.reduceSub, Nat.reduceLeDiff, false_implies, true_implies, not_false_eq_true, not_true_eq_false, and_true, mm_sh, hm, mjs_up_at, mjs_up_c, mjs_up_f]
              refine rq_176 (v := pl t) hM' hv' hJ (by omega) (s6.trans s5.symm) (fun q => absurd q (by omega)) (fun _ J1 f2 => ?_)
              simp +decide only [mjs_0, mjs_1, mjs_2, mjs_3, mjs_ble, true_and, Bool.false_eq_true, if_false, if_true, Nat.reduceAdd, Nat.reduceSub, Nat.reduceLeDiff, false_implies, true_implies, not_false_eq_true, not_true_eq_false, and_true, mm_sh, hm, mjs_up_at, mjs_up_c, mjs_up_f]
              exact mj_nv (f_177b (xf := xf) (gl := gl) (u := u) (h0 := h0) (n := n) hM' f2 (hq J1 f2))
  have np0 : np M.1 M.2.2.2.1 (M.2.2.2.1 - M.2.2.2.1) = 0 := by
    rw [Nat.sub_self]
    rfl
  have hd0 : hdr M M.2.2.2.1 := ⟨fun i i1 i2 => absurd i1 (Nat.not_le.mpr i2), by rw [np0]; omega, fun i i1 i2 => absurd i1 (Nat.not_le.mpr i2)⟩
  refine mj_enter (z := (5, [], mb_67)) (by decide) rfl rfl ?_
  refine mj_blk rfl ?_
  simp +decide only [mjs_0, mjs_1, mjs_2, mjs_3, mjs_ble, true_and, Bool.false_eq_true, if_false, if_true, Nat.reduceAdd, Nat.reduceSub, Nat.reduceLeDiff, false_implies, true_implies, not_false_eq_true, not_true_eq_false, and_true, mc_sh, hr, mjs_up_at, mjs_up_c, mjs_up_f]
  refine p_85n hR hM' hv h hp hr' (fun t2 P2 N2 L2 I2 a1 a2 a3 a4 a5 a6 a7 a8 => ?_) (fun g2 I2 a1 a2 => ?_)
  · simp +decide only [mjs_0, mjs_1, mjs_2, mjs_3, mjs_ble, true_and, Bool.false_eq_true, if_false, if_true, Nat.reduceAdd, Nat.reduceSub, Nat.reduceLeDiff, false_implies, true_implies, not_false_eq_true, not_true_eq_false, and_true]
    exact mj_nv (loop (P2.length + tl L2) 0 t2 0 P2 N2 M L2 I2 (Nat.le_refl _) (by omega) a1 a2 a5.1 (xs_get a3 (Nat.le_of_lt a4) a6) mg_rf hd0 np0 a7 (h0s _ _ a8))
  · simp +decide only [mjs_0, mjs_1, mjs_2, mjs_3, mjs_ble, true_and, Bool.false_eq_true, if_false, if_true, Nat.reduceAdd, Nat.reduceSub, Nat.reduceLeDiff, false_implies, true_implies, not_false_eq_true, not_true_eq_false, and_true]
    exact hQ3 g2 I2 a1 (h0f _ a2)
end MJPA
