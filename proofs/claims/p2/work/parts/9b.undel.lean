/-! AN ARGUMENT WITHOUT DELIMITERS, in both -/
theorem caP_0 {n : Nat} {A : Nat → (Nat → Nat) × Nat} {fi : Nat} {f : Nat → Nat} {fb : Nat → Nat → Int32} (hfi : fi < 2 ^ 31) (h : caA n A fi fb) : caP n A fi f 0 fb := by
  refine ⟨h, fun k hk z hz hz2 => ?_, fun i hi => absurd hi (Nat.not_lt_zero _)⟩
  obtain ⟨f', h1, h2, h3, h4⟩ := h.2 k hk
  have : z = f' := (nI_eq hz2 (by omega)).mp (hz.symm.trans h1)
  omega
theorem caP_up32 {n : Nat} {A : Nat → (Nat → Nat) × Nat} {bg len : Nat} {f : Nat → Nat} {fb : Nat → Nat → Int32} {v : Int32} (h : caP n A bg f len fb) : caP n A bg f len (mj_up fb 32 (n + 1) v) := by
  obtain ⟨⟨h1, h2⟩, h3, h4⟩ := h
  have e : ∀ k, k < n → mj_up fb 32 (n + 1) v 32 (k + 1) = fb 32 (k + 1) := fun k hk => mjs_up_f (by omega)
  refine ⟨⟨h1, fun k hk => ?_⟩, fun k hk z hz hz2 => h3 k hk z ((e k hk).symm.trans hz) hz2, h4⟩
  obtain ⟨z, z1, z2⟩ := h2 k hk
  exact ⟨z, (e k hk).trans z1, z2⟩
section MJUN
variable {X : mj_X} {d nc ns : Nat} {Q : mj_Q} {I I' J J' H : Nat → Nat → Int32} {Lg : Nat → Nat → Int64} {Rf : Nat → Nat → Option Nat} {fb : Nat → Nat → Int32} {vb : Nat → Int32} {K : Nat × Nat × Nat} {P : List Nat} {E : sgE} {N : sgN} {S : sgS} {M : sgM} {C : sgC} {O : sgO} {L L' : sgL} {t n bg : Nat} {A : Nat → (Nat → Nat) × Nat}
theorem cq_189 {S' : mj_S} (ht : t < 2 ^ 31) (hQ : Q (.inl (some (.int (nI (cg t))))) S') : mj_call X mj_P (mj_bi X) (d + 1) 189 [.int (nI t)] S' Q := c_189 ht hQ
theorem rq_121 {S' : mj_S} {c k : Nat} (hk : k ≤ 1036) (h3 : 36 ≤ k) (ht : tv k t) (hc : c < 16) (hQ1 : cg t = c → Q (.inl (some (.int 1))) S') (hQ0 : cg t ≠ c → Q (.inl (some (.int 0))) S') : mj_call X mj_P (mj_bi X) (d + 2) 121 [.int (nI (rt t)), .int (nI c)] S' Q := by
  have hx := rt_cg hk h3 ht hc
  refine r_121 (by have := rt_lt hk h3 ht; omega) (by omega) ?_
  by_cases e : cg t = c
  · rw [if_pos (hx.mpr e)]
    exact hQ1 e
  · rw [if_neg (fun hh => e (hx.mp hh))]
    exact hQ0 e
def u_L (w : Option Value) (n gt dp len : Nat) : mj_LV := [some (.ref 36), some (.int (nI n)), w, some (.int (nI gt)), some (.int (nI dp)), some (.int (nI len))]
theorem p_11l (hR : mj_Rt mp_R Rf) (hM' : mj_Rt mm_R Rf) (hr' : nc + 1 ≤ X.2.2.1 ∧ ns + 6 ≤ X.2.2.2) (hn : n < 9) : ∀ (m dp gt len : Nat) (f : Nat → Nat) (fb : Nat → Nat → Int32) (P : List Nat) (N : sgN) (L : sgL) (I : Nat → Nat → Int32), P.length + tl L ≤ m → P.length ≤ 10000 → 1 ≤ dp → dp ≤ gt + 1 → gt + 1 ≤ 10001 → len + 1 ≤ gt → bg + len + P.length + tl L ≤ 14100 → caP n A bg f len fb → fb 32 (n + 1) = nI bg → (∀ i, i < len → tv N.2.2 (f i)) → gv (K, P, E, N, S, M, C, O, L) → RC fb vb (K, P, E, N, S, M, C, O, L) I →
    (∀ fb' P' N' L' I' f' len' w4 w5, gv (K, P', E, N', S, M, C, O, L') → RC fb' vb (K, P', E, N', S, M, C, O, L') I' → ge P N L P' N' L' → caP n A bg f' len' fb' → fb' 32 (n + 1) = nI bg → len' ≤ 10000 → bg + len' + P'.length + tl L' ≤ 14100 → (∀ i, i < len' → tv N'.2.2 (f' i)) → (∀ (w : Option Value) (H : Nat → Nat → Int32) (Lg : Nat → Nat → Int64) (d nc ns : Nat) (J : Nat → Nat → Int32) (Q : mj_Q), RR H (K, P, E, N, S, M, C, O, L) J → raP n A f len H → (∀ H' J' w3 w4, hx H H' → RR H' (K, P', E, N', S, M, C, O, L') J' → raP n A f' len' H' → mj_rn X (mj_hd []) (mj_call X mj_P (mj_bi X) (d + 6)) mb_144 185 [some (.ref 36), some (.int (nI n)), none, w3, w4, some (.int (nI len'))] [] (sh59, J', Lg, Rf, nc, ns) Q) → mj_rn X (mj_hd []) (mj_call X mj_P (mj_bi X) (d + 6)) mb_144 86 (u_L w n gt dp len) [] (sh59, J, Lg, Rf, nc, ns) Q) → mj_rn X (mj_hd []) (mj_call X mj_P (mj_bi X) (d + 2)) mb_11 176 [some (.ref 30), some (.int (nI (n + 1))), none, none, w4, w5] [] (sh59, I', Lg, Rf, nc, ns) Q) →
    (∀ g' I', RCf fb vb g' I' → (∀ (w : Option Value) (H : Nat → Nat → Int32) (Lg : Nat → Nat → Int64) (d nc ns : Nat) (J : Nat → Nat → Int32) (Q : mj_Q), RR H (K, P, E, N, S, M, C, O, L) J → (∀ J', RD H g' J' → Q (.inl none) (sh59, J', Lg, Rf, nc, ns)) → mj_rn X (mj_hd []) (mj_call X mj_P (mj_bi X) (d + 6)) mb_144 86 (u_L w n gt dp len) [] (sh59, J, Lg, Rf, nc, ns) Q) → Q (.inr 500) (sh59, I', Lg, Rf, nc + 1, ns + 6)) →
    mj_rn X (mj_hd []) (mj_call X mj_P (mj_bi X) (d + 2)) mb_11 93 [some (.ref 30), some (.int (nI (n + 1))), none, none, some (.int (nI dp)), some (.int (nI (gt + 1)))] [] (sh59, I, Lg, Rf, nc, ns) Q := by
  have hr := mc_rf hR
  have hm := mm_rf hM'
  intro m
  induction m with
  | zero =>
    intro dp gt len f fb P N L I h1 h2 h3 h4 h5 h6 h7 hA h32 htv hv h hqA hqF
    refine mj_blk rfl ?_
    simp +decide only [mjs_0, mjs_1, mjs_2, mjs_3, mjs_ble, true_and, Bool.false_eq_true, if_false, if_true, Nat.reduceAdd, Nat.reduceSub, Nat.reduceLeDiff, false_implies, true_implies, not_false_eq_true, not_true_eq_false, and_true]
    refine ⟨fun q => absurd q (nI_nle (by omega) (by omega)), fun _ => mj_blk rfl ?_⟩
    simp +decide only [mjs_0, mjs_1, mjs_2, mjs_3, mjs_ble, true_and, Bool.false_eq_true, if_false, if_true, Nat.reduceAdd, Nat.reduceSub, Nat.reduceLeDiff, false_implies, true_implies, not_false_eq_true, not_true_eq_false, and_true]
    refine ⟨fun q => absurd q (nI_ge (a := gt + 1) (b := 1000000000) (by omega) (by decide)), fun _ => mj_blk rfl ?_⟩
    simp +decide only [mjs_0, mjs_1, mjs_2, mjs_3, mjs_ble, true_and, Bool.false_eq_true, if_false, if_true, Nat.reduceAdd, Nat.reduceSub, Nat.reduceLeDiff, false_implies, true_implies, not_false_eq_true, not_true_eq_false, and_true, mc_sh, hr, mjs_up_at, mjs_up_c, mjs_up_f]
    refine p_85n hR hM' hv h h2 hr' (fun t P' N' L' I' a1 a2 a3 a4 a5 a6 a7 a8 => absurd a4 (by omega)) (fun g' I' a1 a2 => ?_)
    simp +decide only [mjs_0, mjs_1, mjs_2, mjs_3, mjs_ble, true_and, Bool.false_eq_true, if_false, if_true, Nat.reduceAdd, Nat.reduceSub, Nat.reduceLeDiff, false_implies, true_implies, not_false_eq_true, not_true_eq_false, and_true]
    refine hqF g' I' a1 ?_
    intro w H Lg d nc ns J Q hJ hq
    unfold u_L
    refine mj_blk rfl ?_
    simp +decide only [mjs_0, mjs_1, mjs_2, mjs_3, mjs_ble, true_and, Bool.false_eq_true, if_false, if_true, Nat.reduceAdd, Nat.reduceSub, Nat.reduceLeDiff, false_implies, true_implies, not_false_eq_true, not_true_eq_false, and_true, mm_sh, hm, mjs_up_at, mjs_up_c, mjs_up_f]
    refine ⟨fun q => absurd q (nI_nle (by omega) (by omega)), fun _ => mj_blk rfl ?_⟩
    simp +decide only [mjs_0, mjs_1, mjs_2, mjs_3, mjs_ble, true_and, Bool.false_eq_true, if_false, if_true, Nat.reduceAdd, Nat.reduceSub, Nat.reduceLeDiff, false_implies, true_implies, not_false_eq_true, not_true_eq_false, and_true, mm_sh, hm, mjs_up_at, mjs_up_c, mjs_up_f]
    refine a2 H Lg d nc ns J _ hJ (fun J' hJ' => ?_)
    simp +decide only [mjs_0, mjs_1, mjs_2, mjs_3, mjs_ble, true_and, Bool.false_eq_true, if_false, if_true, Nat.reduceAdd, Nat.reduceSub, Nat.reduceLeDiff, false_implies, true_implies, not_false_eq_true, not_true_eq_false, and_true, mm_sh, hm, mjs_up_at, mjs_up_c, mjs_up_f]
    refine ⟨fun _ => mj_blk rfl ?_, fun q => absurd (rd_ne hJ') q⟩
    simp +decide only [mjs_0, mjs_1, mjs_2, mjs_3, mjs_ble, true_and, Bool.false_eq_true, if_false, if_true, Nat.reduceAdd, Nat.reduceSub, Nat.reduceLeDiff, false_implies, true_implies, not_false_eq_true, not_true_eq_false, and_true, mm_sh, hm, mjs_up_at, mjs_up_c, mjs_up_f]
    refine ⟨fun q => absurd q (rd_nle hJ'), fun _ => mj_blk rfl ?_⟩
    simp +decide only [mjs_0, mjs_1, mjs_2, mjs_3, mjs_ble, true_and, Bool.false_eq_true, if_false, if_true, Nat.reduceAdd, Nat.reduceSub, Nat.reduceLeDiff, false_implies, true_implies, not_false_eq_true, not_true_eq_false, and_true, mm_sh, hm, mjs_up_at, mjs_up_c, mjs_up_f]
    exact hq J' hJ'
  | succ m ih =>
    intro dp gt len f fb P N L I h1 h2 h3 h4 h5 h6 h7 hA h32 htv hv h hqA hqF
    refine mj_blk rfl ?_
    simp +decide only [mjs_0, mjs_1, mjs_2, mjs_3, mjs_ble, true_and, Bool.false_eq_true, if_false, if_true, Nat.reduceAdd, Nat.reduceSub, Nat.reduceLeDiff, false_implies, true_implies, not_false_eq_true, not_true_eq_false, and_true]
    refine ⟨fun q => absurd q (nI_nle (by omega) (by omega)), fun _ => mj_blk rfl ?_⟩
    simp +decide only [mjs_0, mjs_1, mjs_2, mjs_3, mjs_ble, true_and, Bool.false_eq_true, if_false, if_true, Nat.reduceAdd, Nat.reduceSub, Nat.reduceLeDiff, false_implies, true_implies, not_false_eq_true, not_true_eq_false, and_true]
    refine ⟨fun q => absurd q (nI_ge (a := gt + 1) (b := 1000000000) (by omega) (by decide)), fun _ => mj_blk rfl ?_⟩
    simp +decide only [mjs_0, mjs_1, mjs_2, mjs_3, mjs_ble, true_and, Bool.false_eq_true, if_false, if_true, Nat.reduceAdd, Nat.reduceSub, Nat.reduceLeDiff, false_implies, true_implies, not_false_eq_true, not_true_eq_false, and_true, mc_sh, hr, mjs_up_at, mjs_up_c, mjs_up_f]
    refine p_85n hR hM' hv h h2 hr' (fun t P1 N1 L1 I1 a1 a2 a3 a4 a5 a6 a7 a8 => ?_) (fun g' I' a1 a2 => ?_)
    · have hk : N1.2.2 ≤ 1036 := (gv_d a1).2.2.1.2.1
      have hk1 : 36 ≤ N1.2.2 := (gv_d a1).2.2.1.1
      have htl := tv_lt hk a7
      have hge : ge P N L P1 N1 L1 := ⟨a3, by omega, a5.2, a6⟩
      have hcg : cg t ≤ 16 := by
        unfold cg
        split <;> omega
      have htv1 : ∀ i, i < len → tv N1.2.2 (f i) := fun i hi => tv_mono a3.1 (htv i hi)
      have r106 : ∀ (w : Option Value) (H : Nat → Nat → Int32) (Lg : Nat → Nat → Int64) (d nc ns : Nat) (J : Nat → Nat → Int32) (Q : mj_Q), RR H (K, P, E, N, S, M, C, O, L) J → (∀ J1, RR H (K, P1, E, N1, S, M, C, O, L1) J1 → mj_rn X (mj_hd []) (mj_call X mj_P (mj_bi X) (d + 6)) mb_144 106 [some (.ref 36), some (.int (nI n)), some (.int (nI (rt t))), some (.int (nI (gt + 1))), some (.int (nI dp)), some (.int (nI len))] [] (sh59, J1, Lg, Rf, nc, ns) Q) → mj_rn X (mj_hd []) (mj_call X mj_P (mj_bi X) (d + 6)) mb_144 86 (u_L w n gt dp len) [] (sh59, J, Lg, Rf, nc, ns) Q := by
        intro w H Lg d nc ns J Q hJ hq
        unfold u_L
        refine mj_blk rfl ?_
        simp +decide only [mjs_0, mjs_1, mjs_2, mjs_3, mjs_ble, true_and, Bool.false_eq_true, if_false, if_true, Nat.reduceAdd, Nat.reduceSub, Nat.reduceLeDiff, false_implies, true_implies, not_false_eq_true, not_true_eq_false, and_true, mm_sh, hm, mjs_up_at, mjs_up_c, mjs_up_f]
        refine ⟨fun q => absurd q (nI_nle (by omega) (by omega)), fun _ => mj_blk rfl ?_⟩
        simp +decide only [mjs_0, mjs_1, mjs_2, mjs_3, mjs_ble, true_and, Bool.false_eq_true, if_false, if_true, Nat.reduceAdd, Nat.reduceSub, Nat.reduceLeDiff, false_implies, true_implies, not_false_eq_true, not_true_eq_false, and_true, mm_sh, hm, mjs_up_at, mjs_up_c, mjs_up_f]
        refine a8 H Lg d nc ns J _ hJ (fun J1 hJ1 => ?_)
        simp +decide only [mjs_0, mjs_1, mjs_2, mjs_3, mjs_ble, true_and, Bool.false_eq_true, if_false, if_true, Nat.reduceAdd, Nat.reduceSub, Nat.reduceLeDiff, false_implies, true_implies, not_false_eq_true, not_true_eq_false, and_true, mm_sh, hm, mjs_up_at, mjs_up_c, mjs_up_f, (rr_d hJ1).1.2.2.2, nI_1]
        exact hq J1 hJ1
      simp +decide only [mjs_0, mjs_1, mjs_2, mjs_3, mjs_ble, true_and, Bool.false_eq_true, if_false, if_true, Nat.reduceAdd, Nat.reduceSub, Nat.reduceLeDiff, false_implies, true_implies, not_false_eq_true, not_true_eq_false, and_true, mc_sh, hr, mjs_up_at, mjs_up_c, mjs_up_f]
      refine cq_189 (by omega) ?_
      simp +decide only [mjs_0, mjs_1, mjs_2, mjs_3, mjs_ble, true_and, Bool.false_eq_true, if_false, if_true, Nat.reduceAdd, Nat.reduceSub, Nat.reduceLeDiff, false_implies, true_implies, not_false_eq_true, not_true_eq_false, and_true]
      refine ⟨fun q => mj_blk rfl ?_, fun q => mj_blk rfl ?_⟩
      · have hgt : gt + 1 ≤ 10000 := (nI_leI (a := gt + 1) (b := 10000) (by omega) (by decide)).mp q
        -- the reference to the depth behind the token
        have r158 : ∀ (w : Option Value) (H : Nat → Nat → Int32) (Lg : Nat → Nat → Int64) (d nc ns : Nat) (J : Nat → Nat → Int32) (Q : mj_Q), RR H (K, P, E, N, S, M, C, O, L) J → (∀ J1, RR H (K, P1, E, N1, S, M, C, O, L1) J1 → mj_rn X (mj_hd []) (mj_call X mj_P (mj_bi X) (d + 6)) mb_144 158 [some (.ref 36), some (.int (nI n)), some (.int (nI (rt t))), some (.int (nI (gt + 1))), some (.int (nI dp)), some (.int (nI len))] [.int (if cg t = 1 then nI dp + 1 else if cg t = 2 then nI dp - 1 else nI dp)] (sh59, J1, Lg, Rf, nc, ns) Q) → mj_rn X (mj_hd []) (mj_call X mj_P (mj_bi X) (d + 6)) mb_144 86 (u_L w n gt dp len) [] (sh59, J, Lg, Rf, nc, ns) Q := by
          intro w H Lg d nc ns J Q hJ hq
          refine r106 w H Lg d nc ns J Q hJ (fun J1 hJ1 => ?_)
          have hq1 := hq J1 hJ1
          refine mj_blk rfl ?_
          simp +decide only [mjs_0, mjs_1, mjs_2, mjs_3, mjs_ble, true_and, Bool.false_eq_true, if_false, if_true, Nat.reduceAdd, Nat.reduceSub, Nat.reduceLeDiff, false_implies, true_implies, not_false_eq_true, not_true_eq_false, and_true, mm_sh, hm, mjs_up_at, mjs_up_c, mjs_up_f]
          refine ⟨fun _ => mj_blk rfl ?_, fun qq => absurd q qq⟩
          simp +decide only [mjs_0, mjs_1, mjs_2, mjs_3, mjs_ble, true_and, Bool.false_eq_true, if_false, if_true, Nat.reduceAdd, Nat.reduceSub, Nat.reduceLeDiff, false_implies, true_implies, not_false_eq_true, not_true_eq_false, and_true, mm_sh, hm, mjs_up_at, mjs_up_c, mjs_up_f, (rr_d hJ1).1.2.2.2]
          refine mj_blk rfl ?_
          simp +decide only [mjs_0, mjs_1, mjs_2, mjs_3, mjs_ble, true_and, Bool.false_eq_true, if_false, if_true, Nat.reduceAdd, Nat.reduceSub, Nat.reduceLeDiff, false_implies, true_implies, not_false_eq_true, not_true_eq_false, and_true, mm_sh, hm, mjs_up_at, mjs_up_c, mjs_up_f]
          refine rq_121 (c := 1) hk hk1 a7 (by decide) (fun e1 => ?_) (fun e1 => ?_)
          · rw [if_pos e1] at hq1
            simp +decide only [mjs_0, mjs_1, mjs_2, mjs_3, mjs_ble, true_and, Bool.false_eq_true, if_false, if_true, Nat.reduceAdd, Nat.reduceSub, Nat.reduceLeDiff, false_implies, true_implies, not_false_eq_true, not_true_eq_false, and_true, mm_sh, hm, mjs_up_at, mjs_up_c, mjs_up_f]
            refine mj_blk rfl ?_
            simp +decide only [mjs_0, mjs_1, mjs_2, mjs_3, mjs_ble, true_and, Bool.false_eq_true, if_false, if_true, Nat.reduceAdd, Nat.reduceSub, Nat.reduceLeDiff, false_implies, true_implies, not_false_eq_true, not_true_eq_false, and_true, mm_sh, hm, mjs_up_at, mjs_up_c, mjs_up_f]
            exact hq1
          · rw [if_neg e1] at hq1
            simp +decide only [mjs_0, mjs_1, mjs_2, mjs_3, mjs_ble, true_and, Bool.false_eq_true, if_false, if_true, Nat.reduceAdd, Nat.reduceSub, Nat.reduceLeDiff, false_implies, true_implies, not_false_eq_true, not_true_eq_false, and_true, mm_sh, hm, mjs_up_at, mjs_up_c, mjs_up_f]
            refine mj_blk rfl ?_
            simp +decide only [mjs_0, mjs_1, mjs_2, mjs_3, mjs_ble, true_and, Bool.false_eq_true, if_false, if_true, Nat.reduceAdd, Nat.reduceSub, Nat.reduceLeDiff, false_implies, true_implies, not_false_eq_true, not_true_eq_false, and_true, mm_sh, hm, mjs_up_at, mjs_up_c, mjs_up_f]
            refine rq_121 (c := 2) hk hk1 a7 (by decide) (fun e2 => ?_) (fun e2 => ?_)
            · rw [if_pos e2] at hq1
              simp +decide only [mjs_0, mjs_1, mjs_2, mjs_3, mjs_ble, true_and, Bool.false_eq_true, if_false, if_true, Nat.reduceAdd, Nat.reduceSub, Nat.reduceLeDiff, false_implies, true_implies, not_false_eq_true, not_true_eq_false, and_true, mm_sh, hm, mjs_up_at, mjs_up_c, mjs_up_f]
              refine mj_blk rfl ?_
              simp +decide only [mjs_0, mjs_1, mjs_2, mjs_3, mjs_ble, true_and, Bool.false_eq_true, if_false, if_true, Nat.reduceAdd, Nat.reduceSub, Nat.reduceLeDiff, false_implies, true_implies, not_false_eq_true, not_true_eq_false, and_true, mm_sh, hm, mjs_up_at, mjs_up_c, mjs_up_f]
              exact hq1
            · rw [if_neg e2] at hq1
              simp +decide only [mjs_0, mjs_1, mjs_2, mjs_3, mjs_ble, true_and, Bool.false_eq_true, if_false, if_true, Nat.reduceAdd, Nat.reduceSub, Nat.reduceLeDiff, false_implies, true_implies, not_false_eq_true, not_true_eq_false, and_true, mm_sh, hm, mjs_up_at, mjs_up_c, mjs_up_f]
              refine mj_blk rfl ?_
              simp +decide only [mjs_0, mjs_1, mjs_2, mjs_3, mjs_ble, true_and, Bool.false_eq_true, if_false, if_true, Nat.reduceAdd, Nat.reduceSub, Nat.reduceLeDiff, false_implies, true_implies, not_false_eq_true, not_true_eq_false, and_true, mm_sh, hm, mjs_up_at, mjs_up_c, mjs_up_f]
              exact hq1
        -- the class at its new depth dp'
        have K157 : ∀ (y : Int32) (dp' : Nat) (w3 w4 : Int32), nI dp + y = nI dp' → (if cg t = 1 then nI dp + 1 else if cg t = 2 then nI dp - 1 else nI dp) = nI dp' → dp' ≤ dp + 1 → mj_rn X (mj_hd []) (mj_call X mj_P (mj_bi X) (d + 2)) mb_11 157 [some (.ref 30), some (.int (nI (n + 1))), some (.int (nI t)), none, none, some (.int (nI (gt + 1)))] [.int y, .int (nI dp)] (sh59, I1, Lg, Rf, nc, ns) Q := by
          intro y dp' w3 w4 hy hy2 hdp
          refine mj_blk rfl ?_
          simp +decide only [mjs_0, mjs_1, mjs_2, mjs_3, mjs_ble, true_and, Bool.false_eq_true, if_false, if_true, Nat.reduceAdd, Nat.reduceSub, Nat.reduceLeDiff, false_implies, true_implies, not_false_eq_true, not_true_eq_false, and_true, hy]
          refine ⟨fun q0 => mj_blk rfl ?_, fun q0 => mj_blk rfl ?_⟩
          · have h0 : dp' = 0 := by
              by_cases e : dp' = 0
              · exact e
              · exact absurd q0 (nI_nle (by omega) (by omega))
            subst h0
            simp +decide only [mjs_0, mjs_1, mjs_2, mjs_3, mjs_ble, true_and, Bool.false_eq_true, if_false, if_true, Nat.reduceAdd, Nat.reduceSub, Nat.reduceLeDiff, false_implies, true_implies, not_false_eq_true, not_true_eq_false, and_true, nI_1]
            refine mj_blk rfl ?_
            simp +decide only [mjs_0, mjs_1, mjs_2, mjs_3, mjs_ble, true_and, Bool.false_eq_true, if_false, if_true, Nat.reduceAdd, Nat.reduceSub, Nat.reduceLeDiff, false_implies, true_implies, not_false_eq_true, not_true_eq_false, and_true]
            refine hqA fb P1 N1 L1 I1 f len _ _ a1 a2 hge hA h32 (by omega) (by omega) htv1 ?_
            intro w H Lg d nc ns J Q hJ hra hq
            refine r158 w H Lg d nc ns J Q hJ (fun J1 hJ1 => ?_)
            rw [hy2]
            refine mj_blk rfl ?_
            simp +decide only [mjs_0, mjs_1, mjs_2, mjs_3, mjs_ble, true_and, Bool.false_eq_true, if_false, if_true, Nat.reduceAdd, Nat.reduceSub, Nat.reduceLeDiff, false_implies, true_implies, not_false_eq_true, not_true_eq_false, and_true, mm_sh, hm, mjs_up_at, mjs_up_c, mjs_up_f]
            refine mj_blk rfl ?_
            simp +decide only [mjs_0, mjs_1, mjs_2, mjs_3, mjs_ble, true_and, Bool.false_eq_true, if_false, if_true, Nat.reduceAdd, Nat.reduceSub, Nat.reduceLeDiff, false_implies, true_implies, not_false_eq_true, not_true_eq_false, and_true, mm_sh, hm, mjs_up_at, mjs_up_c, mjs_up_f]
            exact hq H J1 _ _ hx_rf hJ1 hra
          · have h0 : 1 ≤ dp' := by
              by_cases e : dp' = 0
              · exact absurd (by rw [e]; decide) q0
              · omega
            simp +decide only [mjs_0, mjs_1, mjs_2, mjs_3, mjs_ble, true_and, Bool.false_eq_true, if_false, if_true, Nat.reduceAdd, Nat.reduceSub, Nat.reduceLeDiff, false_implies, true_implies, not_false_eq_true, not_true_eq_false, and_true, mc_sh]
            refine cq_14 hR a2 hA.1.1 (by omega) (fun I2 c2 => ?_)
            simp +decide only [mjs_0, mjs_1, mjs_2, mjs_3, mjs_ble, true_and, Bool.false_eq_true, if_false, if_true, Nat.reduceAdd, Nat.reduceSub, Nat.reduceLeDiff, false_implies, true_implies, not_false_eq_true, not_true_eq_false, and_true, nI_1]
            refine mj_blk rfl ?_
            simp +decide only [mjs_0, mjs_1, mjs_2, mjs_3, mjs_ble, true_and, Bool.false_eq_true, if_false, if_true, Nat.reduceAdd, Nat.reduceSub, Nat.reduceLeDiff, false_implies, true_implies, not_false_eq_true, not_true_eq_false, and_true, nI_1]
            refine ih dp' (gt + 1) (len + 1) (ud f len t) (aB fb (bg + len) t) P1 N1 L1 I2 (by omega) (by omega) h0 (by omega) (by omega) (by omega) (by omega) (caP_add (by omega) hA) h32 (fun i hi => ?_) a1 c2 (fun fb' P' N' L' I' f' len' w4 w5 b1 b2 b3 b4 b5 b6 b7 b8 b9 => hqA fb' P' N' L' I' f' len' w4 w5 b1 b2 (ge_tr hge b3) b4 b5 b6 b7 b8 ?_) (fun g' I' b1 b2 => hqF g' I' b1 ?_)
            · by_cases e : i = len
              · rw [e, ud_at]
                exact a7
              · rw [ud_ne e]
                exact htv1 i (by omega)
            · intro w H Lg d nc ns J Q hJ hra hq
              refine r158 w H Lg d nc ns J Q hJ (fun J1 hJ1 => ?_)
              rw [hy2]
              have e1 : (11000 : Int32) * nI n = nI (11000 * n) := pk_mul 11000 n
              have e2 : (nI (11000 * n + len)).toNatClampNeg = 11000 * n + len := nI_clamp (by omega)
              refine mj_blk rfl ?_
              simp +decide only [mjs_0, mjs_1, mjs_2, mjs_3, mjs_ble, true_and, Bool.false_eq_true, if_false, if_true, Nat.reduceAdd, Nat.reduceSub, Nat.reduceLeDiff, false_implies, true_implies, not_false_eq_true, not_true_eq_false, and_true, mm_sh, hm, mjs_up_at, mjs_up_c, mjs_up_f]
              refine ⟨fun qq => absurd qq (nI_nle (by omega) (by omega)), fun _ => mj_blk rfl ?_⟩
              simp +decide only [mjs_0, mjs_1, mjs_2, mjs_3, mjs_ble, true_and, Bool.false_eq_true, if_false, if_true, Nat.reduceAdd, Nat.reduceSub, Nat.reduceLeDiff, false_implies, true_implies, not_false_eq_true, not_true_eq_false, and_true, mm_sh, hm, mjs_up_at, mjs_up_c, mjs_up_f, e1, nI_add, e2, nI_1]
              refine ⟨nI_in (by omega) (by decide), ?_⟩
              exact b9 _ _ Lg d nc ns _ Q (rr_54 hJ1) (raP_add (by omega) hra) (fun H' J' w3 w4 d1 d2 d3 => hq H' J' w3 w4 (hx_tr (hx_up (by decide)) d1) d2 d3)
            · intro w H Lg d nc ns J Q hJ hq
              refine r158 w H Lg d nc ns J Q hJ (fun J1 hJ1 => ?_)
              rw [hy2]
              have e1 : (11000 : Int32) * nI n = nI (11000 * n) := pk_mul 11000 n
              have e2 : (nI (11000 * n + len)).toNatClampNeg = 11000 * n + len := nI_clamp (by omega)
              refine mj_blk rfl ?_
              simp +decide only [mjs_0, mjs_1, mjs_2, mjs_3, mjs_ble, true_and, Bool.false_eq_true, if_false, if_true, Nat.reduceAdd, Nat.reduceSub, Nat.reduceLeDiff, false_implies, true_implies, not_false_eq_true, not_true_eq_false, and_true, mm_sh, hm, mjs_up_at, mjs_up_c, mjs_up_f]
              refine ⟨fun qq => absurd qq (nI_nle (by omega) (by omega)), fun _ => mj_blk rfl ?_⟩
              simp +decide only [mjs_0, mjs_1, mjs_2, mjs_3, mjs_ble, true_and, Bool.false_eq_true, if_false, if_true, Nat.reduceAdd, Nat.reduceSub, Nat.reduceLeDiff, false_implies, true_implies, not_false_eq_true, not_true_eq_false, and_true, mm_sh, hm, mjs_up_at, mjs_up_c, mjs_up_f, e1, nI_add, e2, nI_1]
              refine ⟨nI_in (by omega) (by decide), ?_⟩
              exact b2 _ _ Lg d nc ns _ Q (rr_54 hJ1) (fun J' d1 => hq J' (rd_hx d1 (hx_up (by decide))))
        simp +decide only [mjs_0, mjs_1, mjs_2, mjs_3, mjs_ble, true_and, Bool.false_eq_true, if_false, if_true, Nat.reduceAdd, Nat.reduceSub, Nat.reduceLeDiff, false_implies, true_implies, not_false_eq_true, not_true_eq_false, and_true]
        by_cases e1 : cg t = 1
        · simp +decide only [mjs_0, mjs_1, mjs_2, mjs_3, mjs_ble, true_and, Bool.false_eq_true, if_false, if_true, Nat.reduceAdd, Nat.reduceSub, Nat.reduceLeDiff, false_implies, true_implies, not_false_eq_true, not_true_eq_false, and_true, e1]
          refine mj_blk rfl ?_
          simp +decide only [mjs_0, mjs_1, mjs_2, mjs_3, mjs_ble, true_and, Bool.false_eq_true, if_false, if_true, Nat.reduceAdd, Nat.reduceSub, Nat.reduceLeDiff, false_implies, true_implies, not_false_eq_true, not_true_eq_false, and_true]
          exact K157 1 (dp + 1) 0 0 (nI_1 dp) (by rw [if_pos e1, nI_1]) (Nat.le_refl _)
        · have n1 : ¬ nI (cg t) = 1 := fun e => e1 ((nI_eq (by omega) (by decide)).mp (show nI (cg t) = nI 1 from e))
          refine ⟨fun _ => mj_blk rfl ?_, fun qq => absurd n1 qq⟩
          by_cases e2 : cg t = 2
          · obtain ⟨dq, rfl⟩ : ∃ dq, dp = dq + 1 := ⟨dp - 1, by omega⟩
            simp +decide only [mjs_0, mjs_1, mjs_2, mjs_3, mjs_ble, true_and, Bool.false_eq_true, if_false, if_true, Nat.reduceAdd, Nat.reduceSub, Nat.reduceLeDiff, false_implies, true_implies, not_false_eq_true, not_true_eq_false, and_true, e2]
            refine mj_blk rfl ?_
            simp +decide only [mjs_0, mjs_1, mjs_2, mjs_3, mjs_ble, true_and, Bool.false_eq_true, if_false, if_true, Nat.reduceAdd, Nat.reduceSub, Nat.reduceLeDiff, false_implies, true_implies, not_false_eq_true, not_true_eq_false, and_true]
            exact K157 (-1) dq 0 0 (pk_m1 dq) (by rw [if_neg e1, if_pos e2, nI_pred]) (by omega)
          · have n2 : ¬ nI (cg t) = 2 := fun e => e2 ((nI_eq (by omega) (by decide)).mp (show nI (cg t) = nI 2 from e))
            simp +decide only [mjs_0, mjs_1, mjs_2, mjs_3, mjs_ble, true_and, Bool.false_eq_true, if_false, if_true, Nat.reduceAdd, Nat.reduceSub, Nat.reduceLeDiff, false_implies, true_implies, not_false_eq_true, not_true_eq_false, and_true]
            refine ⟨fun _ => mj_blk rfl ?_, fun qq => absurd n2 qq⟩
            simp +decide only [mjs_0, mjs_1, mjs_2, mjs_3, mjs_ble, true_and, Bool.false_eq_true, if_false, if_true, Nat.reduceAdd, Nat.reduceSub, Nat.reduceLeDiff, false_implies, true_implies, not_false_eq_true, not_true_eq_false, and_true]
            exact K157 0 dp 0 0 (Int32.add_zero _) (by rw [if_neg e1, if_neg e2]) (by omega)
      · have hgt : ¬ gt + 1 ≤ 10000 := fun hh => q (nI_le (a := gt + 1) (b := 10000) hh (by decide))
        simp +decide only [mjs_0, mjs_1, mjs_2, mjs_3, mjs_ble, true_and, Bool.false_eq_true, if_false, if_true, Nat.reduceAdd, Nat.reduceSub, Nat.reduceLeDiff, false_implies, true_implies, not_false_eq_true, not_true_eq_false, and_true, mc_sh, hr, mjs_up_at, mjs_up_c, mjs_up_f]
        refine c_80 s59_1 hr' ?_
        simp +decide only [mjs_0, mjs_1, mjs_2, mjs_3, mjs_ble, true_and, Bool.false_eq_true, if_false, if_true, Nat.reduceAdd, Nat.reduceSub, Nat.reduceLeDiff, false_implies, true_implies, not_false_eq_true, not_true_eq_false, and_true]
        refine hqF _ _ (rc_f a1 a2) ?_
        intro w H Lg d nc ns J Q hJ hq
        refine r106 w H Lg d nc ns J Q hJ (fun J1 hJ1 => ?_)
        refine mj_blk rfl ?_
        simp +decide only [mjs_0, mjs_1, mjs_2, mjs_3, mjs_ble, true_and, Bool.false_eq_true, if_false, if_true, Nat.reduceAdd, Nat.reduceSub, Nat.reduceLeDiff, false_implies, true_implies, not_false_eq_true, not_true_eq_false, and_true, mm_sh, hm, mjs_up_at, mjs_up_c, mjs_up_f]
        refine ⟨fun qq => absurd qq q, fun _ => mj_blk rfl ?_⟩
        simp +decide only [mjs_0, mjs_1, mjs_2, mjs_3, mjs_ble, true_and, Bool.false_eq_true, if_false, if_true, Nat.reduceAdd, Nat.reduceSub, Nat.reduceLeDiff, false_implies, true_implies, not_false_eq_true, not_true_eq_false, and_true, mm_sh, hm, mjs_up_at, mjs_up_c, mjs_up_f]
        refine c_106 s59_36 ?_
        rw [if_pos (rr_d hJ1).1.2.2.2]
        simp +decide only [mjs_0, mjs_1, mjs_2, mjs_3, mjs_ble, true_and, Bool.false_eq_true, if_false, if_true, Nat.reduceAdd, Nat.reduceSub, Nat.reduceLeDiff, false_implies, true_implies, not_false_eq_true, not_true_eq_false, and_true, mm_sh, hm, mjs_up_at, mjs_up_c, mjs_up_f]
        refine mj_blk rfl ?_
        simp +decide only [mjs_0, mjs_1, mjs_2, mjs_3, mjs_ble, true_and, Bool.false_eq_true, if_false, if_true, Nat.reduceAdd, Nat.reduceSub, Nat.reduceLeDiff, false_implies, true_implies, not_false_eq_true, not_true_eq_false, and_true, mm_sh, hm, mjs_up_at, mjs_up_c, mjs_up_f]
        refine mj_blk rfl ?_
        simp +decide only [mjs_0, mjs_1, mjs_2, mjs_3, mjs_ble, true_and, Bool.false_eq_true, if_false, if_true, Nat.reduceAdd, Nat.reduceSub, Nat.reduceLeDiff, false_implies, true_implies, not_false_eq_true, not_true_eq_false, and_true, mm_sh, hm, mjs_up_at, mjs_up_c, mjs_up_f]
        exact hq _ (rr_f (f := 2) (by decide) (by decide) hJ1)
    · simp +decide only [mjs_0, mjs_1, mjs_2, mjs_3, mjs_ble, true_and, Bool.false_eq_true, if_false, if_true, Nat.reduceAdd, Nat.reduceSub, Nat.reduceLeDiff, false_implies, true_implies, not_false_eq_true, not_true_eq_false, and_true]
      refine hqF g' I' a1 ?_
      intro w H Lg d nc ns J Q hJ hq
      unfold u_L
      refine mj_blk rfl ?_
      simp +decide only [mjs_0, mjs_1, mjs_2, mjs_3, mjs_ble, true_and, Bool.false_eq_true, if_false, if_true, Nat.reduceAdd, Nat.reduceSub, Nat.reduceLeDiff, false_implies, true_implies, not_false_eq_true, not_true_eq_false, and_true, mm_sh, hm, mjs_up_at, mjs_up_c, mjs_up_f]
      refine ⟨fun q => absurd q (nI_nle (by omega) (by omega)), fun _ => mj_blk rfl ?_⟩
      simp +decide only [mjs_0, mjs_1, mjs_2, mjs_3, mjs_ble, true_and, Bool.false_eq_true, if_false, if_true, Nat.reduceAdd, Nat.reduceSub, Nat.reduceLeDiff, false_implies, true_implies, not_false_eq_true, not_true_eq_false, and_true, mm_sh, hm, mjs_up_at, mjs_up_c, mjs_up_f]
      refine a2 H Lg d nc ns J _ hJ (fun J' hJ' => ?_)
      simp +decide only [mjs_0, mjs_1, mjs_2, mjs_3, mjs_ble, true_and, Bool.false_eq_true, if_false, if_true, Nat.reduceAdd, Nat.reduceSub, Nat.reduceLeDiff, false_implies, true_implies, not_false_eq_true, not_true_eq_false, and_true, mm_sh, hm, mjs_up_at, mjs_up_c, mjs_up_f]
      refine ⟨fun _ => mj_blk rfl ?_, fun q => absurd (rd_ne hJ') q⟩
      simp +decide only [mjs_0, mjs_1, mjs_2, mjs_3, mjs_ble, true_and, Bool.false_eq_true, if_false, if_true, Nat.reduceAdd, Nat.reduceSub, Nat.reduceLeDiff, false_implies, true_implies, not_false_eq_true, not_true_eq_false, and_true, mm_sh, hm, mjs_up_at, mjs_up_c, mjs_up_f]
      refine ⟨fun q => absurd q (rd_nle hJ'), fun _ => mj_blk rfl ?_⟩
      simp +decide only [mjs_0, mjs_1, mjs_2, mjs_3, mjs_ble, true_and, Bool.false_eq_true, if_false, if_true, Nat.reduceAdd, Nat.reduceSub, Nat.reduceLeDiff, false_implies, true_implies, not_false_eq_true, not_true_eq_false, and_true, mm_sh, hm, mjs_up_at, mjs_up_c, mjs_up_f]
      exact hq J' hJ'
end MJUN
