/-! AN ARGUMENT WITHOUT DELIMITERS, in both -/
theorem caP_0 {n : Nat} {A : Nat → (Nat → Nat) × Nat} {fi : Nat} {f : Nat → Nat} {fb : Nat → Nat → Int32} (hfi : fi < 2 ^ 31) (h : caA n A fi fb) : caP n A fi f 0 fb := by
  refine ⟨h, fun k hk z hz hz2 => ?_, fun i hi => absurd hi (Nat.not_lt_zero _)⟩
  obtain ⟨f', h1, h2, h3, h4⟩ := h.2 k hk
  have : z = f' := (nI_eq hz2 (by omega)).mp (hz.symm.trans h1)
  omega
theorem caP_up32 {n : Nat} {A : Nat → (Nat → Nat) × Nat} {bg len : Nat} {f : Nat → Nat} {fb : Nat → Nat → Int32} {v : Int32} (h : caP n A bg f len fb) : caP n A bg f len (mj_up fb 32 (n + 1) v) := by
  obtain ⟨⟨h1, h2⟩, h3, h4⟩ := h
  have e : ∀ k, k < n → mj_up fb 32 (n + 1) v 32 (k + 1) = fb 32 (k + 1) := fun k hk => mjs_up_f (by omega)
  refine ⟨⟨h1, fun k hk => ?_⟩, fun k hk z hz hz2 => h3 k hk z ((e k hk).symm.trans hz) hz2, h4⟩
  obtain ⟨z, z1, z2⟩ := h2 k hk
  exact ⟨z, (e k hk).trans z1, z2⟩
theorem caP_end {n : Nat} {A : Nat → (Nat → Nat) × Nat} {bg len : Nat} {f : Nat → Nat} {fb : Nat → Nat → Int32} (h : caP n A bg f len fb) (h32 : fb 32 (n + 1) = nI bg) : caA (n + 1) (ud A n (f, len)) (bg + len) (mj_up fb 33 (n + 1) (nI (bg + len))) := by
  obtain ⟨⟨h1, h2⟩, h3, h4⟩ := h
  refine ⟨h1, fun k hk => ?_⟩
  by_cases e : k = n
  · subst e
    rw [ud_at]
    exact ⟨bg, h32, mjs_up_at, Nat.le_refl _, h4⟩
  · rw [ud_ne e]
    obtain ⟨z, z1, z2, z3, z4⟩ := h2 k (by omega)
    refine ⟨z, z1, ?_, z3, z4⟩
    rw [mjs_up_f (by omega)]
    exact z2
theorem raA_55 {n : Nat} {A : Nat → (Nat → Nat) × Nat} {H : Nat → Nat → Int32} {v : Int32} (h : raA n A H) : raA n A (mj_up H 55 n v) := by
  intro k hk
  obtain ⟨a1, a2, a3⟩ := h k hk
  exact ⟨by rw [mjs_up_f (by omega)]; exact a1, a2, a3⟩
theorem raP_0 {n : Nat} {A : Nat → (Nat → Nat) × Nat} {H : Nat → Nat → Int32} {f : Nat → Nat} (h : raA n A H) : raP n A f 0 H := ⟨h, fun i hi => absurd hi (Nat.not_lt_zero _)⟩
section MJUN
variable {X : mj_X} {d nc ns : Nat} {Q : mj_Q} {I I' J J' H : Nat → Nat → Int32} {Lg : Nat → Nat → Int64} {Rf : Nat → Nat → Option Nat} {fb : Nat → Nat → Int32} {vb : Nat → Int32} {K : Nat × Nat × Nat} {P : List Nat} {E : sgE} {N : sgN} {S : sgS} {M : sgM} {C : sgC} {O : sgO} {L L' : sgL} {t n bg fi : Nat} {A : Nat → (Nat → Nat) × Nat} {g0 : sg} {A0 : (Nat → Nat → Int32) → Prop}
theorem cq_189 {S' : mj_S} (ht : t < 2 ^ 31) (hQ : Q (.inl (some (.int (nI (cg t))))) S') : mj_call X mj_P (mj_bi X) (d + 1) 189 [.int (nI t)] S' Q := c_189 ht hQ
theorem rq_121 {S' : mj_S} {c k : Nat} (hk : k ≤ 1036) (h3 : 36 ≤ k) (ht : tv k t) (hc : c < 16) (hQ1 : cg t = c → Q (.inl (some (.int 1))) S') (hQ0 : cg t ≠ c → Q (.inl (some (.int 0))) S') : mj_call X mj_P (mj_bi X) (d + 2) 121 [.int (nI (rt t)), .int (nI c)] S' Q := by
  have hx := rt_cg hk h3 ht hc
  refine r_121 (by have := rt_lt hk h3 ht; omega) (by omega) ?_
  by_cases e : cg t = c
  · rw [if_pos (hx.mpr e)]
    exact hQ1 e
  · rw [if_neg (fun hh => e (hx.mp hh))]
    exact hQ0 e
def u_0 (n : Nat) : mj_LV := [some (.ref 36), some (.int (nI n)), none, none, none, none]
def u_5 (n : Nat) (x : Int32) : mj_LV := [some (.ref 36), some (.int (nI n)), some (.int x), none, none, none]
def u_L (n gt dp len : Nat) : mj_LV := [some (.ref 36), some (.int (nI n)), none, some (.int (nI gt)), some (.int (nI dp)), some (.int (nI len))]
theorem f_144 (hM' : mj_Rt mm_R Rf) {g' : sg} (hJ : RD H g' J) (hn : n < 9) (hq : ∀ J', RD H g' J' → Q (.inl none) (sh59, J', Lg, Rf, nc, ns)) : mj_rn X (mj_hd []) (mj_call X mj_P (mj_bi X) (d + 6)) mb_144 5 (u_5 n (-1)) [] (sh59, J, Lg, Rf, nc, ns) Q := by
  have hm := mm_rf hM'
  have e0 : (nI n).toNatClampNeg = n := nI_clamp (by omega)
  unfold u_5
  refine mj_blk rfl ?_
  simp +decide only [mjs_0, mjs_1, mjs_2, mjs_3, mjs_ble, true_and, Bool.false_eq_true, if_false, if_true, Nat.reduceAdd, Nat.reduceSub, Nat.reduceLeDiff, false_implies, true_implies, not_false_eq_true, not_true_eq_false, and_true, mm_sh, hm, mjs_up_at, mjs_up_c, mjs_up_f]
  refine r_121e ?_
  simp +decide only [mjs_0, mjs_1, mjs_2, mjs_3, mjs_ble, true_and, Bool.false_eq_true, if_false, if_true, Nat.reduceAdd, Nat.reduceSub, Nat.reduceLeDiff, false_implies, true_implies, not_false_eq_true, not_true_eq_false, and_true, mm_sh, hm, mjs_up_at, mjs_up_c, mjs_up_f]
  refine mj_blk rfl ?_
  simp +decide only [mjs_0, mjs_1, mjs_2, mjs_3, mjs_ble, true_and, Bool.false_eq_true, if_false, if_true, Nat.reduceAdd, Nat.reduceSub, Nat.reduceLeDiff, false_implies, true_implies, not_false_eq_true, not_true_eq_false, and_true, mm_sh, hm, mjs_up_at, mjs_up_c, mjs_up_f, e0]
  refine ⟨nI_in hn (by decide), fun q => absurd q (rd_nle hJ), fun _ => mj_blk rfl ?_⟩
  simp +decide only [mjs_0, mjs_1, mjs_2, mjs_3, mjs_ble, true_and, Bool.false_eq_true, if_false, if_true, Nat.reduceAdd, Nat.reduceSub, Nat.reduceLeDiff, false_implies, true_implies, not_false_eq_true, not_true_eq_false, and_true, mm_sh, hm, mjs_up_at, mjs_up_c, mjs_up_f]
  exact hq _ (rd_upc hJ (by decide) (by decide))
theorem p_11s (hR : mj_Rt mp_R Rf) (hM' : mj_Rt mm_R Rf) (hr' : nc + 1 ≤ X.2.2.1 ∧ ns + 6 ≤ X.2.2.2) (hn : n < 9) : ∀ (m i t : Nat) (P : List Nat) (N : sgN) (L : sgL) (I : Nat → Nat → Int32), P.length + tl L ≤ m → i + m ≤ 20000 → P.length ≤ 10000 → tv N.2.2 t → gv (K, P, E, N, S, M, C, O, L) → RC fb vb (K, P, E, N, S, M, C, O, L) I → RM X Rf mb_144 6 0 (u_0 n) [] g0 A0 5 (u_5 n (nI (rt t))) [] (K, P, E, N, S, M, C, O, L) A0 →
    (∀ t P' N' L' I', gv (K, P', E, N', S, M, C, O, L') → RC fb vb (K, P', E, N', S, M, C, O, L') I' → ge P N L P' N' L' → tv N'.2.2 t → cg t ≠ 10 → RM X Rf mb_144 6 0 (u_0 n) [] g0 A0 22 (u_5 n (nI (rt t))) [] (K, P', E, N', S, M, C, O, L') A0 → mj_rn X (mj_hd []) (mj_call X mj_P (mj_bi X) (d + 2)) mb_11 39 [some (.ref 30), some (.int (nI (n + 1))), some (.int (nI t)), none, none, none] [] (sh59, I', Lg, Rf, nc, ns) Q) →
    (∀ g' I', RCf fb vb g' I' → RMf X Rf mb_144 6 0 (u_0 n) [] g0 A0 none g' → Q (.inr 500) (sh59, I', Lg, Rf, nc + 1, ns + 6)) →
    mj_rn X (mj_hd []) (mj_call X mj_P (mj_bi X) (d + 2)) mb_11 11 [some (.ref 30), some (.int (nI (n + 1))), some (.int (nI t)), some (.int (nI i)), none, none] [] (sh59, I, Lg, Rf, nc, ns) Q := by
  have hr := mc_rf hR
  have hm := mm_rf hM'
  intro m
  induction m using Nat.strongRecOn with
  | ind m ih =>
    intro i t P N L I h1 h2 h3 ht hv h hM hqA hqF
    have hk : N.2.2 ≤ 1036 := (gv_d hv).2.2.1.2.1
    have hk1 : 36 ≤ N.2.2 := (gv_d hv).2.2.1.1
    have htl := tv_lt hk ht
    refine mj_blk rfl ?_
    simp +decide only [mjs_0, mjs_1, mjs_2, mjs_3, mjs_ble, true_and, Bool.false_eq_true, if_false, if_true, Nat.reduceAdd, Nat.reduceSub, Nat.reduceLeDiff, false_implies, true_implies, not_false_eq_true, not_true_eq_false, and_true]
    refine ⟨fun q => absurd q (nI_ge (a := i) (b := 1000000000) (by omega) (by decide)), fun _ => mj_blk rfl ?_⟩
    simp +decide only [mjs_0, mjs_1, mjs_2, mjs_3, mjs_ble, true_and, Bool.false_eq_true, if_false, if_true, Nat.reduceAdd, Nat.reduceSub, Nat.reduceLeDiff, false_implies, true_implies, not_false_eq_true, not_true_eq_false, and_true]
    refine c_190 (by omega) ?_
    by_cases e : t / 256 = 10
    · rw [if_pos e]
      simp +decide only [mjs_0, mjs_1, mjs_2, mjs_3, mjs_ble, true_and, Bool.false_eq_true, if_false, if_true, Nat.reduceAdd, Nat.reduceSub, Nat.reduceLeDiff, false_implies, true_implies, not_false_eq_true, not_true_eq_false, and_true]
      refine mj_blk rfl ?_
      simp +decide only [mjs_0, mjs_1, mjs_2, mjs_3, mjs_ble, true_and, Bool.false_eq_true, if_false, if_true, Nat.reduceAdd, Nat.reduceSub, Nat.reduceLeDiff, false_implies, true_implies, not_false_eq_true, not_true_eq_false, and_true, mc_sh, hr, mjs_up_at, mjs_up_c, mjs_up_f]
      refine p_85n hR hM' hv h h3 hr' (fun t1 P1 N1 L1 I1 a1 a2 a3 a4 a5 a6 a7 a8 => ?_) (fun g' I' a1 a2 => ?_)
      · simp +decide only [mjs_0, mjs_1, mjs_2, mjs_3, mjs_ble, true_and, Bool.false_eq_true, if_false, if_true, Nat.reduceAdd, Nat.reduceSub, Nat.reduceLeDiff, false_implies, true_implies, not_false_eq_true, not_true_eq_false, and_true, nI_1]
        refine ih (P1.length + tl L1) (by omega) (i + 1) t1 P1 N1 L1 I1 (Nat.le_refl _) (by omega) (by omega) a7 a1 a2 (rm_tr hM ?_) (fun t' P' N' L' I' b1 b2 b3 => hqA t' P' N' L' I' b1 b2 (ge_tr ⟨a3, by omega, a5.2, a6⟩ b3)) hqF
        intro H Lg d nc ns J Q hJ hA hq
        unfold u_5 at hq ⊢
        refine mj_blk rfl ?_
        simp +decide only [mjs_0, mjs_1, mjs_2, mjs_3, mjs_ble, true_and, Bool.false_eq_true, if_false, if_true, Nat.reduceAdd, Nat.reduceSub, Nat.reduceLeDiff, false_implies, true_implies, not_false_eq_true, not_true_eq_false, and_true, mm_sh, hm, mjs_up_at, mjs_up_c, mjs_up_f]
        refine rq_121 (c := 10) hk hk1 ht (by decide) (fun e1 => ?_) (fun e1 => absurd ((cg_10 ht).mp e) e1)
        simp +decide only [mjs_0, mjs_1, mjs_2, mjs_3, mjs_ble, true_and, Bool.false_eq_true, if_false, if_true, Nat.reduceAdd, Nat.reduceSub, Nat.reduceLeDiff, false_implies, true_implies, not_false_eq_true, not_true_eq_false, and_true, mm_sh, hm, mjs_up_at, mjs_up_c, mjs_up_f]
        refine mj_blk rfl ?_
        simp +decide only [mjs_0, mjs_1, mjs_2, mjs_3, mjs_ble, true_and, Bool.false_eq_true, if_false, if_true, Nat.reduceAdd, Nat.reduceSub, Nat.reduceLeDiff, false_implies, true_implies, not_false_eq_true, not_true_eq_false, and_true, mm_sh, hm, mjs_up_at, mjs_up_c, mjs_up_f]
        refine a8 H Lg d nc ns J _ hJ (fun J1 hJ1 => ?_)
        simp +decide only [mjs_0, mjs_1, mjs_2, mjs_3, mjs_ble, true_and, Bool.false_eq_true, if_false, if_true, Nat.reduceAdd, Nat.reduceSub, Nat.reduceLeDiff, false_implies, true_implies, not_false_eq_true, not_true_eq_false, and_true, mm_sh, hm, mjs_up_at, mjs_up_c, mjs_up_f]
        exact mj_nv (hq H J1 hx_rf hJ1 hA)
      · simp +decide only [mjs_0, mjs_1, mjs_2, mjs_3, mjs_ble, true_and, Bool.false_eq_true, if_false, if_true, Nat.reduceAdd, Nat.reduceSub, Nat.reduceLeDiff, false_implies, true_implies, not_false_eq_true, not_true_eq_false, and_true]
        refine hqF g' I' a1 (rm_f hM ?_)
        intro H Lg d nc ns J Q hJ hA hq
        unfold u_5
        refine mj_blk rfl ?_
        simp +decide only [mjs_0, mjs_1, mjs_2, mjs_3, mjs_ble, true_and, Bool.false_eq_true, if_false, if_true, Nat.reduceAdd, Nat.reduceSub, Nat.reduceLeDiff, false_implies, true_implies, not_false_eq_true, not_true_eq_false, and_true, mm_sh, hm, mjs_up_at, mjs_up_c, mjs_up_f]
        refine rq_121 (c := 10) hk hk1 ht (by decide) (fun e1 => ?_) (fun e1 => absurd ((cg_10 ht).mp e) e1)
        simp +decide only [mjs_0, mjs_1, mjs_2, mjs_3, mjs_ble, true_and, Bool.false_eq_true, if_false, if_true, Nat.reduceAdd, Nat.reduceSub, Nat.reduceLeDiff, false_implies, true_implies, not_false_eq_true, not_true_eq_false, and_true, mm_sh, hm, mjs_up_at, mjs_up_c, mjs_up_f]
        refine mj_blk rfl ?_
        simp +decide only [mjs_0, mjs_1, mjs_2, mjs_3, mjs_ble, true_and, Bool.false_eq_true, if_false, if_true, Nat.reduceAdd, Nat.reduceSub, Nat.reduceLeDiff, false_implies, true_implies, not_false_eq_true, not_true_eq_false, and_true, mm_sh, hm, mjs_up_at, mjs_up_c, mjs_up_f]
        refine a2 H Lg d nc ns J _ hJ (fun J1 hJ1 => ?_)
        simp +decide only [mjs_0, mjs_1, mjs_2, mjs_3, mjs_ble, true_and, Bool.false_eq_true, if_false, if_true, Nat.reduceAdd, Nat.reduceSub, Nat.reduceLeDiff, false_implies, true_implies, not_false_eq_true, not_true_eq_false, and_true, mm_sh, hm, mjs_up_at, mjs_up_c, mjs_up_f]
        exact mj_nv (f_144 hM' hJ1 hn hq)
    · rw [if_neg e]
      simp +decide only [mjs_0, mjs_1, mjs_2, mjs_3, mjs_ble, true_and, Bool.false_eq_true, if_false, if_true, Nat.reduceAdd, Nat.reduceSub, Nat.reduceLeDiff, false_implies, true_implies, not_false_eq_true, not_true_eq_false, and_true]
      refine mj_nv (hqA t P N L I hv h ge_rf ht (fun e1 => e ((cg_10 ht).mpr e1)) (rm_tr hM ?_))
      intro H Lg d nc ns J Q hJ hA hq
      unfold u_5 at hq ⊢
      refine mj_blk rfl ?_
      simp +decide only [mjs_0, mjs_1, mjs_2, mjs_3, mjs_ble, true_and, Bool.false_eq_true, if_false, if_true, Nat.reduceAdd, Nat.reduceSub, Nat.reduceLeDiff, false_implies, true_implies, not_false_eq_true, not_true_eq_false, and_true, mm_sh, hm, mjs_up_at, mjs_up_c, mjs_up_f]
      refine rq_121 (c := 10) hk hk1 ht (by decide) (fun e1 => absurd ((cg_10 ht).mpr e1) e) (fun _ => ?_)
      simp +decide only [mjs_0, mjs_1, mjs_2, mjs_3, mjs_ble, true_and, Bool.false_eq_true, if_false, if_true, Nat.reduceAdd, Nat.reduceSub, Nat.reduceLeDiff, false_implies, true_implies, not_false_eq_true, not_true_eq_false, and_true, mm_sh, hm, mjs_up_at, mjs_up_c, mjs_up_f]
      exact mj_nv (hq H J hx_rf hJ hA)
theorem p_11l (hR : mj_Rt mp_R Rf) (hM' : mj_Rt mm_R Rf) (hr' : nc + 1 ≤ X.2.2.1 ∧ ns + 6 ≤ X.2.2.2) (hn : n < 9) : ∀ (m dp gt len : Nat) (f : Nat → Nat) (fb : Nat → Nat → Int32) (P : List Nat) (N : sgN) (L : sgL) (I : Nat → Nat → Int32), P.length + tl L ≤ m → P.length ≤ 10000 → 1 ≤ dp → dp ≤ gt + 1 → gt + 1 ≤ 10001 → len + 1 ≤ gt → bg + len + P.length + tl L ≤ 14100 → caP n A bg f len fb → fb 32 (n + 1) = nI bg → (∀ i, i < len → tv N.2.2 (f i)) → gv (K, P, E, N, S, M, C, O, L) → RC fb vb (K, P, E, N, S, M, C, O, L) I → RM X Rf mb_144 6 0 (u_0 n) [] g0 A0 86 (u_L n gt dp len) [] (K, P, E, N, S, M, C, O, L) (raP n A f len) →
    (∀ fb' P' N' L' I' f' len', gv (K, P', E, N', S, M, C, O, L') → RC fb' vb (K, P', E, N', S, M, C, O, L') I' → ge P N L P' N' L' → caP n A bg f' len' fb' → fb' 32 (n + 1) = nI bg → len' ≤ 10000 → bg + len' + P'.length + tl L' ≤ 14100 → (∀ i, i < len' → tv N'.2.2 (f' i)) → RM X Rf mb_144 6 0 (u_0 n) [] g0 A0 185 [some (.ref 36), some (.int (nI n)), none, none, none, some (.int (nI len'))] [] (K, P', E, N', S, M, C, O, L') (raP n A f' len') → mj_rn X (mj_hd []) (mj_call X mj_P (mj_bi X) (d + 2)) mb_11 176 [some (.ref 30), some (.int (nI (n + 1))), none, none, none, none] [] (sh59, I', Lg, Rf, nc, ns) Q) →
    (∀ g' I', RCf fb vb g' I' → RMf X Rf mb_144 6 0 (u_0 n) [] g0 A0 none g' → Q (.inr 500) (sh59, I', Lg, Rf, nc + 1, ns + 6)) →
    mj_rn X (mj_hd []) (mj_call X mj_P (mj_bi X) (d + 2)) mb_11 93 [some (.ref 30), some (.int (nI (n + 1))), none, none, some (.int (nI dp)), some (.int (nI (gt + 1)))] [] (sh59, I, Lg, Rf, nc, ns) Q := by
  have hr := mc_rf hR
  have hm := mm_rf hM'
  intro m
  induction m using Nat.strongRecOn with
  | ind m ih =>
    intro dp gt len f fb P N L I h1 h2 h3 h4 h5 h6 h7 hA h32 htv hv h hM hqA hqF
    refine mj_blk rfl ?_
    simp +decide only [mjs_0, mjs_1, mjs_2, mjs_3, mjs_ble, true_and, Bool.false_eq_true, if_false, if_true, Nat.reduceAdd, Nat.reduceSub, Nat.reduceLeDiff, false_implies, true_implies, not_false_eq_true, not_true_eq_false, and_true]
    refine ⟨fun q => absurd q (nI_nle (by omega) (by omega)), fun _ => mj_blk rfl ?_⟩
    simp +decide only [mjs_0, mjs_1, mjs_2, mjs_3, mjs_ble, true_and, Bool.false_eq_true, if_false, if_true, Nat.reduceAdd, Nat.reduceSub, Nat.reduceLeDiff, false_implies, true_implies, not_false_eq_true, not_true_eq_false, and_true]
    refine ⟨fun q => absurd q (nI_ge (a := gt + 1) (b := 1000000000) (by omega) (by decide)), fun _ => mj_blk rfl ?_⟩
    simp +decide only [mjs_0, mjs_1, mjs_2, mjs_3, mjs_ble, true_and, Bool.false_eq_true, if_false, if_true, Nat.reduceAdd, Nat.reduceSub, Nat.reduceLeDiff, false_implies, true_implies, not_false_eq_true, not_true_eq_false, and_true, mc_sh, hr, mjs_up_at, mjs_up_c, mjs_up_f]
    refine p_85n hR hM' hv h h2 hr' (fun t P1 N1 L1 I1 a1 a2 a3 a4 a5 a6 a7 a8 => ?_) (fun g' I' a1 a2 => ?_)
    · have hk : N1.2.2 ≤ 1036 := (gv_d a1).2.2.1.2.1
      have hk1 : 36 ≤ N1.2.2 := (gv_d a1).2.2.1.1
      have htl := tv_lt hk a7
      have hge : ge P N L P1 N1 L1 := ⟨a3, by omega, a5.2, a6⟩
      have hcg : cg t ≤ 16 := by
        unfold cg
        split <;> omega
      have htv1 : ∀ i, i < len → tv N1.2.2 (f i) := fun i hi => tv_mono a3.1 (htv i hi)
      have r106 : RM X Rf mb_144 6 0 (u_0 n) [] g0 A0 106 [some (.ref 36), some (.int (nI n)), some (.int (nI (rt t))), some (.int (nI (gt + 1))), some (.int (nI dp)), some (.int (nI len))] [] (K, P1, E, N1, S, M, C, O, L1) (raP n A f len) := by
        refine rm_tr hM ?_
        intro H Lg d nc ns J Q hJ hA hq
        unfold u_L
        refine mj_blk rfl ?_
        simp +decide only [mjs_0, mjs_1, mjs_2, mjs_3, mjs_ble, true_and, Bool.false_eq_true, if_false, if_true, Nat.reduceAdd, Nat.reduceSub, Nat.reduceLeDiff, false_implies, true_implies, not_false_eq_true, not_true_eq_false, and_true, mm_sh, hm, mjs_up_at, mjs_up_c, mjs_up_f]
        refine ⟨fun q => absurd q (nI_nle (by omega) (by omega)), fun _ => mj_blk rfl ?_⟩
        simp +decide only [mjs_0, mjs_1, mjs_2, mjs_3, mjs_ble, true_and, Bool.false_eq_true, if_false, if_true, Nat.reduceAdd, Nat.reduceSub, Nat.reduceLeDiff, false_implies, true_implies, not_false_eq_true, not_true_eq_false, and_true, mm_sh, hm, mjs_up_at, mjs_up_c, mjs_up_f]
        refine a8 H Lg d nc ns J _ hJ (fun J1 hJ1 => ?_)
        simp +decide only [mjs_0, mjs_1, mjs_2, mjs_3, mjs_ble, true_and, Bool.false_eq_true, if_false, if_true, Nat.reduceAdd, Nat.reduceSub, Nat.reduceLeDiff, false_implies, true_implies, not_false_eq_true, not_true_eq_false, and_true, mm_sh, hm, mjs_up_at, mjs_up_c, mjs_up_f, (rr_d hJ1).1.2.2.2, nI_1]
        exact hq H J1 hx_rf hJ1 hA
      simp +decide only [mjs_0, mjs_1, mjs_2, mjs_3, mjs_ble, true_and, Bool.false_eq_true, if_false, if_true, Nat.reduceAdd, Nat.reduceSub, Nat.reduceLeDiff, false_implies, true_implies, not_false_eq_true, not_true_eq_false, and_true, mc_sh, hr, mjs_up_at, mjs_up_c, mjs_up_f]
      refine cq_189 (by omega) ?_
      simp +decide only [mjs_0, mjs_1, mjs_2, mjs_3, mjs_ble, true_and, Bool.false_eq_true, if_false, if_true, Nat.reduceAdd, Nat.reduceSub, Nat.reduceLeDiff, false_implies, true_implies, not_false_eq_true, not_true_eq_false, and_true]
      refine ⟨fun q => mj_blk rfl ?_, fun q => mj_blk rfl ?_⟩
      · have hgt : gt + 1 ≤ 10000 := (nI_leI (a := gt + 1) (b := 10000) (by omega) (by decide)).mp q
        -- the reference to the depth behind the token
        have r158 : RM X Rf mb_144 6 0 (u_0 n) [] g0 A0 158 [some (.ref 36), some (.int (nI n)), some (.int (nI (rt t))), some (.int (nI (gt + 1))), some (.int (nI dp)), some (.int (nI len))] [.int (if cg t = 1 then nI dp + 1 else if cg t = 2 then nI dp - 1 else nI dp)] (K, P1, E, N1, S, M, C, O, L1) (raP n A f len) := by
          refine rm_tr r106 ?_
          intro H Lg d nc ns J1 Q hJ1 hA hq
          have hq1 := hq H J1 hx_rf hJ1 hA
          refine mj_blk rfl ?_
          simp +decide only [mjs_0, mjs_1, mjs_2, mjs_3, mjs_ble, true_and, Bool.false_eq_true, if_false, if_true, Nat.reduceAdd, Nat.reduceSub, Nat.reduceLeDiff, false_implies, true_implies, not_false_eq_true, not_true_eq_false, and_true, mm_sh, hm, mjs_up_at, mjs_up_c, mjs_up_f]
          refine ⟨fun _ => mj_blk rfl ?_, fun qq => absurd q qq⟩
          simp +decide only [mjs_0, mjs_1, mjs_2, mjs_3, mjs_ble, true_and, Bool.false_eq_true, if_false, if_true, Nat.reduceAdd, Nat.reduceSub, Nat.reduceLeDiff, false_implies, true_implies, not_false_eq_true, not_true_eq_false, and_true, mm_sh, hm, mjs_up_at, mjs_up_c, mjs_up_f, (rr_d hJ1).1.2.2.2]
          refine mj_blk rfl ?_
          simp +decide only [mjs_0, mjs_1, mjs_2, mjs_3, mjs_ble, true_and, Bool.false_eq_true, if_false, if_true, Nat.reduceAdd, Nat.reduceSub, Nat.reduceLeDiff, false_implies, true_implies, not_false_eq_true, not_true_eq_false, and_true, mm_sh, hm, mjs_up_at, mjs_up_c, mjs_up_f]
          refine rq_121 (c := 1) hk hk1 a7 (by decide) (fun e1 => ?_) (fun e1 => ?_)
          · rw [if_pos e1] at hq1
            simp +decide only [mjs_0, mjs_1, mjs_2, mjs_3, mjs_ble, true_and, Bool.false_eq_true, if_false, if_true, Nat.reduceAdd, Nat.reduceSub, Nat.reduceLeDiff, false_implies, true_implies, not_false_eq_true, not_true_eq_false, and_true, mm_sh, hm, mjs_up_at, mjs_up_c, mjs_up_f]
            refine mj_blk rfl ?_
            simp +decide only [mjs_0, mjs_1, mjs_2, mjs_3, mjs_ble, true_and, Bool.false_eq_true, if_false, if_true, Nat.reduceAdd, Nat.reduceSub, Nat.reduceLeDiff, false_implies, true_implies, not_false_eq_true, not_true_eq_false, and_true, mm_sh, hm, mjs_up_at, mjs_up_c, mjs_up_f]
            exact hq1
          · rw [if_neg e1] at hq1
            simp +decide only [mjs_0, mjs_1, mjs_2, mjs_3, mjs_ble, true_and, Bool.false_eq_true, if_false, if_true, Nat.reduceAdd, Nat.reduceSub, Nat.reduceLeDiff, false_implies, true_implies, not_false_eq_true, not_true_eq_false, and_true, mm_sh, hm, mjs_up_at, mjs_up_c, mjs_up_f]
            refine mj_blk rfl ?_
            simp +decide only [mjs_0, mjs_1, mjs_2, mjs_3, mjs_ble, true_and, Bool.false_eq_true, if_false, if_true, Nat.reduceAdd, Nat.reduceSub, Nat.reduceLeDiff, false_implies, true_implies, not_false_eq_true, not_true_eq_false, and_true, mm_sh, hm, mjs_up_at, mjs_up_c, mjs_up_f]
            refine rq_121 (c := 2) hk hk1 a7 (by decide) (fun e2 => ?_) (fun e2 => ?_)
            · rw [if_pos e2] at hq1
              simp +decide only [mjs_0, mjs_1, mjs_2, mjs_3, mjs_ble, true_and, Bool.false_eq_true, if_false, if_true, Nat.reduceAdd, Nat.reduceSub, Nat.reduceLeDiff, false_implies, true_implies, not_false_eq_true, not_true_eq_false, and_true, mm_sh, hm, mjs_up_at, mjs_up_c, mjs_up_f]
              refine mj_blk rfl ?_
              simp +decide only [mjs_0, mjs_1, mjs_2, mjs_3, mjs_ble, true_and, Bool.false_eq_true, if_false, if_true, Nat.reduceAdd, Nat.reduceSub, Nat.reduceLeDiff, false_implies, true_implies, not_false_eq_true, not_true_eq_false, and_true, mm_sh, hm, mjs_up_at, mjs_up_c, mjs_up_f]
              exact hq1
            · rw [if_neg e2] at hq1
              simp +decide only [mjs_0, mjs_1, mjs_2, mjs_3, mjs_ble, true_and, Bool.false_eq_true, if_false, if_true, Nat.reduceAdd, Nat.reduceSub, Nat.reduceLeDiff, false_implies, true_implies, not_false_eq_true, not_true_eq_false, and_true, mm_sh, hm, mjs_up_at, mjs_up_c, mjs_up_f]
              refine mj_blk rfl ?_
              simp +decide only [mjs_0, mjs_1, mjs_2, mjs_3, mjs_ble, true_and, Bool.false_eq_true, if_false, if_true, Nat.reduceAdd, Nat.reduceSub, Nat.reduceLeDiff, false_implies, true_implies, not_false_eq_true, not_true_eq_false, and_true, mm_sh, hm, mjs_up_at, mjs_up_c, mjs_up_f]
              exact hq1
        -- the class at its new depth dp'
        have K157 : ∀ (y : Int32) (dp' : Nat), nI dp + y = nI dp' → (if cg t = 1 then nI dp + 1 else if cg t = 2 then nI dp - 1 else nI dp) = nI dp' → dp' ≤ dp + 1 → mj_rn X (mj_hd []) (mj_call X mj_P (mj_bi X) (d + 2)) mb_11 157 [some (.ref 30), some (.int (nI (n + 1))), some (.int (nI t)), none, none, some (.int (nI (gt + 1)))] [.int y, .int (nI dp)] (sh59, I1, Lg, Rf, nc, ns) Q := by
          intro y dp' hy hy2 hdp
          rw [hy2] at r158
          refine mj_blk rfl ?_
          simp +decide only [mjs_0, mjs_1, mjs_2, mjs_3, mjs_ble, true_and, Bool.false_eq_true, if_false, if_true, Nat.reduceAdd, Nat.reduceSub, Nat.reduceLeDiff, false_implies, true_implies, not_false_eq_true, not_true_eq_false, and_true, hy]
          refine ⟨fun q0 => mj_blk rfl ?_, fun q0 => mj_blk rfl ?_⟩
          · have h0 : dp' = 0 := by
              by_cases e : dp' = 0
              · exact e
              · exact absurd q0 (nI_nle (by omega) (by omega))
            subst h0
            simp +decide only [mjs_0, mjs_1, mjs_2, mjs_3, mjs_ble, true_and, Bool.false_eq_true, if_false, if_true, Nat.reduceAdd, Nat.reduceSub, Nat.reduceLeDiff, false_implies, true_implies, not_false_eq_true, not_true_eq_false, and_true, nI_1]
            refine mj_blk rfl ?_
            simp +decide only [mjs_0, mjs_1, mjs_2, mjs_3, mjs_ble, true_and, Bool.false_eq_true, if_false, if_true, Nat.reduceAdd, Nat.reduceSub, Nat.reduceLeDiff, false_implies, true_implies, not_false_eq_true, not_true_eq_false, and_true]
            refine mj_nv (hqA fb P1 N1 L1 I1 f len a1 a2 hge hA h32 (by omega) (by omega) htv1 (rm_tr r158 ?_))
            intro H Lg d nc ns J1 Q hJ1 hA hq
            refine mj_blk rfl ?_
            simp +decide only [mjs_0, mjs_1, mjs_2, mjs_3, mjs_ble, true_and, Bool.false_eq_true, if_false, if_true, Nat.reduceAdd, Nat.reduceSub, Nat.reduceLeDiff, false_implies, true_implies, not_false_eq_true, not_true_eq_false, and_true, mm_sh, hm, mjs_up_at, mjs_up_c, mjs_up_f]
            refine mj_blk rfl ?_
            simp +decide only [mjs_0, mjs_1, mjs_2, mjs_3, mjs_ble, true_and, Bool.false_eq_true, if_false, if_true, Nat.reduceAdd, Nat.reduceSub, Nat.reduceLeDiff, false_implies, true_implies, not_false_eq_true, not_true_eq_false, and_true, mm_sh, hm, mjs_up_at, mjs_up_c, mjs_up_f]
            exact mj_nv (hq H J1 hx_rf hJ1 hA)
          · have h0 : 1 ≤ dp' := by
              by_cases e : dp' = 0
              · exact absurd (by rw [e]; decide) q0
              · omega
            simp +decide only [mjs_0, mjs_1, mjs_2, mjs_3, mjs_ble, true_and, Bool.false_eq_true, if_false, if_true, Nat.reduceAdd, Nat.reduceSub, Nat.reduceLeDiff, false_implies, true_implies, not_false_eq_true, not_true_eq_false, and_true, mc_sh]
            refine cq_14 hR a2 hA.1.1 (by omega) (fun I2 c2 => ?_)
            simp +decide only [mjs_0, mjs_1, mjs_2, mjs_3, mjs_ble, true_and, Bool.false_eq_true, if_false, if_true, Nat.reduceAdd, Nat.reduceSub, Nat.reduceLeDiff, false_implies, true_implies, not_false_eq_true, not_true_eq_false, and_true, nI_1]
            refine mj_blk rfl ?_
            simp +decide only [mjs_0, mjs_1, mjs_2, mjs_3, mjs_ble, true_and, Bool.false_eq_true, if_false, if_true, Nat.reduceAdd, Nat.reduceSub, Nat.reduceLeDiff, false_implies, true_implies, not_false_eq_true, not_true_eq_false, and_true, nI_1]
            refine ih (P1.length + tl L1) (by omega) dp' (gt + 1) (len + 1) (ud f len t) (aB fb (bg + len) t) P1 N1 L1 I2 (Nat.le_refl _) (by omega) h0 (by omega) (by omega) (by omega) (by omega) (caP_add (by omega) hA) h32 (fun i hi => ?_) a1 c2 (rm_tr r158 ?_) (fun fb' P' N' L' I' f' len' b1 b2 b3 => hqA fb' P' N' L' I' f' len' b1 b2 (ge_tr hge b3)) hqF
            · by_cases e : i = len
              · rw [e, ud_at]
                exact a7
              · rw [ud_ne e]
                exact htv1 i (by omega)
            · intro H Lg d nc ns J1 Q hJ1 hra hq
              have e1 : (11000 : Int32) * nI n = nI (11000 * n) := pk_mul 11000 n
              have e2 : (nI (11000 * n + len)).toNatClampNeg = 11000 * n + len := nI_clamp (by omega)
              refine mj_blk rfl ?_
              simp +decide only [mjs_0, mjs_1, mjs_2, mjs_3, mjs_ble, true_and, Bool.false_eq_true, if_false, if_true, Nat.reduceAdd, Nat.reduceSub, Nat.reduceLeDiff, false_implies, true_implies, not_false_eq_true, not_true_eq_false, and_true, mm_sh, hm, mjs_up_at, mjs_up_c, mjs_up_f]
              refine ⟨fun qq => absurd qq (nI_nle (by omega) (by omega)), fun _ => mj_blk rfl ?_⟩
              simp +decide only [mjs_0, mjs_1, mjs_2, mjs_3, mjs_ble, true_and, Bool.false_eq_true, if_false, if_true, Nat.reduceAdd, Nat.reduceSub, Nat.reduceLeDiff, false_implies, true_implies, not_false_eq_true, not_true_eq_false, and_true, mm_sh, hm, mjs_up_at, mjs_up_c, mjs_up_f, e1, nI_add, e2, nI_1]
              refine ⟨nI_in (by omega) (by decide), ?_⟩
              exact mj_nv (hq _ _ (hx_up (by decide)) (rr_54 hJ1) (raP_add (by omega) hra))
        simp +decide only [mjs_0, mjs_1, mjs_2, mjs_3, mjs_ble, true_and, Bool.false_eq_true, if_false, if_true, Nat.reduceAdd, Nat.reduceSub, Nat.reduceLeDiff, false_implies, true_implies, not_false_eq_true, not_true_eq_false, and_true]
        by_cases e1 : cg t = 1
        · simp +decide only [mjs_0, mjs_1, mjs_2, mjs_3, mjs_ble, true_and, Bool.false_eq_true, if_false, if_true, Nat.reduceAdd, Nat.reduceSub, Nat.reduceLeDiff, false_implies, true_implies, not_false_eq_true, not_true_eq_false, and_true, e1]
          refine mj_blk rfl ?_
          simp +decide only [mjs_0, mjs_1, mjs_2, mjs_3, mjs_ble, true_and, Bool.false_eq_true, if_false, if_true, Nat.reduceAdd, Nat.reduceSub, Nat.reduceLeDiff, false_implies, true_implies, not_false_eq_true, not_true_eq_false, and_true]
          exact K157 1 (dp + 1) (nI_1 dp) (by rw [if_pos e1, nI_1]) (Nat.le_refl _)
        · have n1 : ¬ nI (cg t) = 1 := fun e => e1 ((nI_eq (by omega) (by decide)).mp (show nI (cg t) = nI 1 from e))
          refine ⟨fun _ => mj_blk rfl ?_, fun qq => absurd n1 qq⟩
          by_cases e2 : cg t = 2
          · obtain ⟨dq, rfl⟩ : ∃ dq, dp = dq + 1 := ⟨dp - 1, by omega⟩
            simp +decide only [mjs_0, mjs_1, mjs_2, mjs_3, mjs_ble, true_and, Bool.false_eq_true, if_false, if_true, Nat.reduceAdd, Nat.reduceSub, Nat.reduceLeDiff, false_implies, true_implies, not_false_eq_true, not_true_eq_false, and_true, e2]
            refine mj_blk rfl ?_
            simp +decide only [mjs_0, mjs_1, mjs_2, mjs_3, mjs_ble, true_and, Bool.false_eq_true, if_false, if_true, Nat.reduceAdd, Nat.reduceSub, Nat.reduceLeDiff, false_implies, true_implies, not_false_eq_true, not_true_eq_false, and_true]
            exact K157 (-1) dq (pk_m1 dq) (by rw [if_neg e1, if_pos e2, nI_pred]) (by omega)
          · have n2 : ¬ nI (cg t) = 2 := fun e => e2 ((nI_eq (by omega) (by decide)).mp (show nI (cg t) = nI 2 from e))
            simp +decide only [mjs_0, mjs_1, mjs_2, mjs_3, mjs_ble, true_and, Bool.false_eq_true, if_false, if_true, Nat.reduceAdd, Nat.reduceSub, Nat.reduceLeDiff, false_implies, true_implies, not_false_eq_true, not_true_eq_false, and_true]
            refine ⟨fun _ => mj_blk rfl ?_, fun qq => absurd n2 qq⟩
            simp +decide only [mjs_0, mjs_1, mjs_2, mjs_3, mjs_ble, true_and, Bool.false_eq_true, if_false, if_true, Nat.reduceAdd, Nat.reduceSub, Nat.reduceLeDiff, false_implies, true_implies, not_false_eq_true, not_true_eq_false, and_true]
            exact K157 0 dp (Int32.add_zero _) (by rw [if_neg e1, if_neg e2]) (by omega)
      · have hgt : ¬ gt + 1 ≤ 10000 := fun hh => q (nI_le (a := gt + 1) (b := 10000) hh (by decide))
        simp +decide only [mjs_0, mjs_1, mjs_2, mjs_3, mjs_ble, true_and, Bool.false_eq_true, if_false, if_true, Nat.reduceAdd, Nat.reduceSub, Nat.reduceLeDiff, false_implies, true_implies, not_false_eq_true, not_true_eq_false, and_true, mc_sh, hr, mjs_up_at, mjs_up_c, mjs_up_f]
        refine c_80 s59_1 hr' ?_
        simp +decide only [mjs_0, mjs_1, mjs_2, mjs_3, mjs_ble, true_and, Bool.false_eq_true, if_false, if_true, Nat.reduceAdd, Nat.reduceSub, Nat.reduceLeDiff, false_implies, true_implies, not_false_eq_true, not_true_eq_false, and_true]
        refine hqF _ _ (rc_f a1 a2) (rm_f r106 ?_)
        intro H Lg d nc ns J1 Q hJ1 hA hq
        refine mj_blk rfl ?_
        simp +decide only [mjs_0, mjs_1, mjs_2, mjs_3, mjs_ble, true_and, Bool.false_eq_true, if_false, if_true, Nat.reduceAdd, Nat.reduceSub, Nat.reduceLeDiff, false_implies, true_implies, not_false_eq_true, not_true_eq_false, and_true, mm_sh, hm, mjs_up_at, mjs_up_c, mjs_up_f]
        refine ⟨fun qq => absurd qq q, fun _ => mj_blk rfl ?_⟩
        simp +decide only [mjs_0, mjs_1, mjs_2, mjs_3, mjs_ble, true_and, Bool.false_eq_true, if_false, if_true, Nat.reduceAdd, Nat.reduceSub, Nat.reduceLeDiff, false_implies, true_implies, not_false_eq_true, not_true_eq_false, and_true, mm_sh, hm, mjs_up_at, mjs_up_c, mjs_up_f]
        refine c_106 s59_36 ?_
        rw [if_pos (rr_d hJ1).1.2.2.2]
        simp +decide only [mjs_0, mjs_1, mjs_2, mjs_3, mjs_ble, true_and, Bool.false_eq_true, if_false, if_true, Nat.reduceAdd, Nat.reduceSub, Nat.reduceLeDiff, false_implies, true_implies, not_false_eq_true, not_true_eq_false, and_true, mm_sh, hm, mjs_up_at, mjs_up_c, mjs_up_f]
        refine mj_blk rfl ?_
        simp +decide only [mjs_0, mjs_1, mjs_2, mjs_3, mjs_ble, true_and, Bool.false_eq_true, if_false, if_true, Nat.reduceAdd, Nat.reduceSub, Nat.reduceLeDiff, false_implies, true_implies, not_false_eq_true, not_true_eq_false, and_true, mm_sh, hm, mjs_up_at, mjs_up_c, mjs_up_f]
        refine mj_blk rfl ?_
        simp +decide only [mjs_0, mjs_1, mjs_2, mjs_3, mjs_ble, true_and, Bool.false_eq_true, if_false, if_true, Nat.reduceAdd, Nat.reduceSub, Nat.reduceLeDiff, false_implies, true_implies, not_false_eq_true, not_true_eq_false, and_true, mm_sh, hm, mjs_up_at, mjs_up_c, mjs_up_f]
        exact hq _ (rr_f (f := 2) (by decide) (by decide) hJ1)
    · simp +decide only [mjs_0, mjs_1, mjs_2, mjs_3, mjs_ble, true_and, Bool.false_eq_true, if_false, if_true, Nat.reduceAdd, Nat.reduceSub, Nat.reduceLeDiff, false_implies, true_implies, not_false_eq_true, not_true_eq_false, and_true]
      refine hqF g' I' a1 (rm_f hM ?_)
      intro H Lg d nc ns J Q hJ hA hq
      unfold u_L
      refine mj_blk rfl ?_
      simp +decide only [mjs_0, mjs_1, mjs_2, mjs_3, mjs_ble, true_and, Bool.false_eq_true, if_false, if_true, Nat.reduceAdd, Nat.reduceSub, Nat.reduceLeDiff, false_implies, true_implies, not_false_eq_true, not_true_eq_false, and_true, mm_sh, hm, mjs_up_at, mjs_up_c, mjs_up_f]
      refine ⟨fun q => absurd q (nI_nle (by omega) (by omega)), fun _ => mj_blk rfl ?_⟩
      simp +decide only [mjs_0, mjs_1, mjs_2, mjs_3, mjs_ble, true_and, Bool.false_eq_true, if_false, if_true, Nat.reduceAdd, Nat.reduceSub, Nat.reduceLeDiff, false_implies, true_implies, not_false_eq_true, not_true_eq_false, and_true, mm_sh, hm, mjs_up_at, mjs_up_c, mjs_up_f]
      refine a2 H Lg d nc ns J _ hJ (fun J' hJ' => ?_)
      simp +decide only [mjs_0, mjs_1, mjs_2, mjs_3, mjs_ble, true_and, Bool.false_eq_true, if_false, if_true, Nat.reduceAdd, Nat.reduceSub, Nat.reduceLeDiff, false_implies, true_implies, not_false_eq_true, not_true_eq_false, and_true, mm_sh, hm, mjs_up_at, mjs_up_c, mjs_up_f]
      refine ⟨fun _ => mj_blk rfl ?_, fun q => absurd (rd_ne hJ') q⟩
      simp +decide only [mjs_0, mjs_1, mjs_2, mjs_3, mjs_ble, true_and, Bool.false_eq_true, if_false, if_true, Nat.reduceAdd, Nat.reduceSub, Nat.reduceLeDiff, false_implies, true_implies, not_false_eq_true, not_true_eq_false, and_true, mm_sh, hm, mjs_up_at, mjs_up_c, mjs_up_f]
      refine ⟨fun q => absurd q (rd_nle hJ'), fun _ => mj_blk rfl ?_⟩
      simp +decide only [mjs_0, mjs_1, mjs_2, mjs_3, mjs_ble, true_and, Bool.false_eq_true, if_false, if_true, Nat.reduceAdd, Nat.reduceSub, Nat.reduceLeDiff, false_implies, true_implies, not_false_eq_true, not_true_eq_false, and_true, mm_sh, hm, mjs_up_at, mjs_up_c, mjs_up_f]
      exact hq J' hJ'
/-- one argument: class and reference -/
theorem p_11 (hR : mj_Rt mp_R Rf) (hM' : mj_Rt mm_R Rf) (hr' : nc + 1 ≤ X.2.2.1 ∧ ns + 6 ≤ X.2.2.2) (hn : n < 9) (hv : gv (K, P, E, N, S, M, C, O, L)) (h : RC fb vb (K, P, E, N, S, M, C, O, L) I) (hp : P.length ≤ 10000) (hA : caA n A fi fb) (hfi : fi + P.length + tl L ≤ 14100)
    (hQ1 : ∀ fb' P' N' L' I' f len fi', gv (K, P', E, N', S, M, C, O, L') → RC fb' vb (K, P', E, N', S, M, C, O, L') I' → ge P N L P' N' L' → caA (n + 1) (ud A n (f, len)) fi' fb' → fi' + P'.length + tl L' ≤ 14100 → (∀ i, i < len → tv N'.2.2 (f i)) → RX X Rf 7 144 [.ref 36, .int (nI n)] (K, P, E, N, S, M, C, O, L) (raA n A) none (K, P', E, N', S, M, C, O, L') (raA (n + 1) (ud A n (f, len))) → Q (.inl none) (sh59, I', Lg, Rf, nc, ns))
    (hQ3 : ∀ g' I', RCf fb vb g' I' → RY X Rf 7 144 [.ref 36, .int (nI n)] (K, P, E, N, S, M, C, O, L) (raA n A) none g' → Q (.inr 500) (sh59, I', Lg, Rf, nc + 1, ns + 6)) :
    mj_call X mj_P (mj_bi X) (d + 3) 11 [.ref 30, .int (nI (n + 1))] (sh59, I, Lg, Rf, nc, ns) Q := by
  have hr := mc_rf hR
  have hm := mm_rf hM'
  have e0 : (nI (n + 1)).toNatClampNeg = n + 1 := nI_clamp (by omega)
  have e3 : (nI n).toNatClampNeg = n := nI_clamp (by omega)
  have qE : ∀ (f : Nat → Nat) (len : Nat) (g' : sg), RMe X Rf mb_144 6 0 (u_0 n) [] (K, P, E, N, S, M, C, O, L) (raA n A) none g' (raA (n + 1) (ud A n (f, len))) → RX X Rf 7 144 [.ref 36, .int (nI n)] (K, P, E, N, S, M, C, O, L) (raA n A) none g' (raA (n + 1) (ud A n (f, len))) := fun f len g' hh => rx_in (z := 6) (by decide) rfl rfl rfl hh
  have qF : ∀ g' I', RCf fb vb g' I' → RMf X Rf mb_144 6 0 (u_0 n) [] (K, P, E, N, S, M, C, O, L) (raA n A) none g' → Q (.inr 500) (sh59, I', Lg, Rf, nc + 1, ns + 6) := fun g' I' q1 q2 => hQ3 g' I' q1 (ry_in (z := 6) (by decide) rfl rfl rfl q2)
  refine mj_enter (z := (6, [], mb_11)) (by decide) rfl rfl ?_
  refine mj_blk rfl ?_
  simp +decide only [mjs_0, mjs_1, mjs_2, mjs_3, mjs_ble, true_and, Bool.false_eq_true, if_false, if_true, Nat.reduceAdd, Nat.reduceSub, Nat.reduceLeDiff, false_implies, true_implies, not_false_eq_true, not_true_eq_false, and_true, mc_sh, hr, mjs_up_at, mjs_up_c, mjs_up_f]
  refine p_85n hR hM' hv h hp hr' (fun t1 P1 N1 L1 I1 a1 a2 a3 a4 a5 a6 a7 a8 => ?_) (fun g' I' a1 a2 => ?_)
  · simp +decide only [mjs_0, mjs_1, mjs_2, mjs_3, mjs_ble, true_and, Bool.false_eq_true, if_false, if_true, Nat.reduceAdd, Nat.reduceSub, Nat.reduceLeDiff, false_implies, true_implies, not_false_eq_true, not_true_eq_false, and_true]
    refine mj_nv (p_11s (d := d) (g0 := (K, P, E, N, S, M, C, O, L)) (A0 := raA n A) (fb := fb) (vb := vb) hR hM' hr' hn (P1.length + tl L1) 0 t1 P1 N1 L1 I1 (Nat.le_refl _) (by have := tl_le (gv_d a1).2.2.2.2.2.2.2; omega) (by omega) a7 a1 a2 ?_ (fun t P' N' L' I' b1 b2 b3 b4 b5 b6 => ?_) qF)
    · intro H Lg d nc ns J Q hJ hA hq
      unfold u_0
      refine mj_blk rfl ?_
      simp +decide only [mjs_0, mjs_1, mjs_2, mjs_3, mjs_ble, true_and, Bool.false_eq_true, if_false, if_true, Nat.reduceAdd, Nat.reduceSub, Nat.reduceLeDiff, false_implies, true_implies, not_false_eq_true, not_true_eq_false, and_true, mm_sh, hm, mjs_up_at, mjs_up_c, mjs_up_f]
      refine a8 H Lg d nc ns J _ hJ (fun J1 hJ1 => ?_)
      simp +decide only [mjs_0, mjs_1, mjs_2, mjs_3, mjs_ble, true_and, Bool.false_eq_true, if_false, if_true, Nat.reduceAdd, Nat.reduceSub, Nat.reduceLeDiff, false_implies, true_implies, not_false_eq_true, not_true_eq_false, and_true, mm_sh, hm, mjs_up_at, mjs_up_c, mjs_up_f]
      exact mj_nv (hq H J1 hx_rf hJ1 hA)
    · have hk : N'.2.2 ≤ 1036 := (gv_d b1).2.2.1.2.1
      have hk1 : 36 ≤ N'.2.2 := (gv_d b1).2.2.1.1
      have htl := tv_lt hk b4
      have hcg : cg t ≤ 16 := by
        unfold cg
        split <;> omega
      have hge : ge P N L P' N' L' := ge_tr ⟨a3, by omega, a5.2, a6⟩ b3
      have hfi' : fi + P'.length + tl L' + 1 ≤ 14100 := by
        have := b3.2.1
        omega
      have hlen' : P'.length ≤ 9999 := by
        have := b3.2.2.1
        omega
      have r37 : RM X Rf mb_144 6 0 (u_0 n) [] (K, P, E, N, S, M, C, O, L) (raA n A) 37 (u_5 n (nI (rt t))) [] (K, P', E, N', S, M, C, O, L') (raA n A) := by
        refine rm_tr b6 ?_
        intro H Lg d nc ns J Q hJ hA hq
        unfold u_5 at hq ⊢
        refine mj_blk rfl ?_
        simp +decide only [mjs_0, mjs_1, mjs_2, mjs_3, mjs_ble, true_and, Bool.false_eq_true, if_false, if_true, Nat.reduceAdd, Nat.reduceSub, Nat.reduceLeDiff, false_implies, true_implies, not_false_eq_true, not_true_eq_false, and_true, mm_sh, hm, mjs_up_at, mjs_up_c, mjs_up_f, e3, (rr_d hJ).1.2.2.2]
        refine ⟨nI_in hn (by decide), ?_⟩
        exact mj_nv (hq _ _ (hx_up (by decide)) (rr_55 hJ) (raA_55 hA))
      have h30 : I' 30 3 = nI fi := ((rc_fb b2 3).1).trans hA.1
      have hA1 : caP n A fi (fun _ => 0) 0 (mj_up fb 32 (n + 1) (nI fi)) := caP_up32 (caP_0 (by omega) hA)
      refine mj_blk rfl ?_
      simp +decide only [mjs_0, mjs_1, mjs_2, mjs_3, mjs_ble, true_and, Bool.false_eq_true, if_false, if_true, Nat.reduceAdd, Nat.reduceSub, Nat.reduceLeDiff, false_implies, true_implies, not_false_eq_true, not_true_eq_false, and_true, mc_sh, hr, mjs_up_at, mjs_up_c, mjs_up_f, e0, h30]
      refine ⟨nI_in (by omega) (by decide), ?_⟩
      refine cq_189 (by omega) ?_
      have c32 := rc_32 (q := n + 1) (v := nI fi) b2
      by_cases e2 : cg t = 2
      · simp +decide only [mjs_0, mjs_1, mjs_2, mjs_3, mjs_ble, true_and, Bool.false_eq_true, if_false, if_true, Nat.reduceAdd, Nat.reduceSub, Nat.reduceLeDiff, false_implies, true_implies, not_false_eq_true, not_true_eq_false, and_true, e2]
        refine mj_blk rfl ?_
        simp +decide only [mjs_0, mjs_1, mjs_2, mjs_3, mjs_ble, true_and, Bool.false_eq_true, if_false, if_true, Nat.reduceAdd, Nat.reduceSub, Nat.reduceLeDiff, false_implies, true_implies, not_false_eq_true, not_true_eq_false, and_true, mc_sh, hr, mjs_up_at, mjs_up_c, mjs_up_f]
        refine c_80 s59_1 hr' ?_
        simp +decide only [mjs_0, mjs_1, mjs_2, mjs_3, mjs_ble, true_and, Bool.false_eq_true, if_false, if_true, Nat.reduceAdd, Nat.reduceSub, Nat.reduceLeDiff, false_implies, true_implies, not_false_eq_true, not_true_eq_false, and_true]
        refine qF _ _ (rc_f (fb := mj_up fb 32 (n + 1) (nI fi)) b1 c32) (rm_f r37 ?_)
        intro H Lg d nc ns J Q hJ hA hq
        unfold u_5
        refine mj_blk rfl ?_
        simp +decide only [mjs_0, mjs_1, mjs_2, mjs_3, mjs_ble, true_and, Bool.false_eq_true, if_false, if_true, Nat.reduceAdd, Nat.reduceSub, Nat.reduceLeDiff, false_implies, true_implies, not_false_eq_true, not_true_eq_false, and_true, mm_sh, hm, mjs_up_at, mjs_up_c, mjs_up_f]
        refine rq_121 (c := 2) hk hk1 b4 (by decide) (fun _ => ?_) (fun e => absurd e2 e)
        simp +decide only [mjs_0, mjs_1, mjs_2, mjs_3, mjs_ble, true_and, Bool.false_eq_true, if_false, if_true, Nat.reduceAdd, Nat.reduceSub, Nat.reduceLeDiff, false_implies, true_implies, not_false_eq_true, not_true_eq_false, and_true, mm_sh, hm, mjs_up_at, mjs_up_c, mjs_up_f]
        refine mj_blk rfl ?_
        simp +decide only [mjs_0, mjs_1, mjs_2, mjs_3, mjs_ble, true_and, Bool.false_eq_true, if_false, if_true, Nat.reduceAdd, Nat.reduceSub, Nat.reduceLeDiff, false_implies, true_implies, not_false_eq_true, not_true_eq_false, and_true, mm_sh, hm, mjs_up_at, mjs_up_c, mjs_up_f]
        refine c_106 s59_36 ?_
        rw [if_pos (rr_d hJ).1.2.2.2]
        simp +decide only [mjs_0, mjs_1, mjs_2, mjs_3, mjs_ble, true_and, Bool.false_eq_true, if_false, if_true, Nat.reduceAdd, Nat.reduceSub, Nat.reduceLeDiff, false_implies, true_implies, not_false_eq_true, not_true_eq_false, and_true, mm_sh, hm, mjs_up_at, mjs_up_c, mjs_up_f]
        exact hq _ (rr_f (f := 5) (by decide) (by decide) hJ)
      · have n2 : ¬ nI (cg t) = 2 := fun e => e2 ((nI_eq (by omega) (by decide)).mp (show nI (cg t) = nI 2 from e))
        have r51 : RM X Rf mb_144 6 0 (u_0 n) [] (K, P, E, N, S, M, C, O, L) (raA n A) 51 (u_5 n (nI (rt t))) [] (K, P', E, N', S, M, C, O, L') (raA n A) := by
          refine rm_tr r37 ?_
          intro H Lg d nc ns J Q hJ hA hq
          unfold u_5 at hq ⊢
          refine mj_blk rfl ?_
          simp +decide only [mjs_0, mjs_1, mjs_2, mjs_3, mjs_ble, true_and, Bool.false_eq_true, if_false, if_true, Nat.reduceAdd, Nat.reduceSub, Nat.reduceLeDiff, false_implies, true_implies, not_false_eq_true, not_true_eq_false, and_true, mm_sh, hm, mjs_up_at, mjs_up_c, mjs_up_f]
          refine rq_121 (c := 2) hk hk1 b4 (by decide) (fun e => absurd e e2) (fun _ => ?_)
          simp +decide only [mjs_0, mjs_1, mjs_2, mjs_3, mjs_ble, true_and, Bool.false_eq_true, if_false, if_true, Nat.reduceAdd, Nat.reduceSub, Nat.reduceLeDiff, false_implies, true_implies, not_false_eq_true, not_true_eq_false, and_true, mm_sh, hm, mjs_up_at, mjs_up_c, mjs_up_f]
          exact mj_nv (hq H J hx_rf hJ hA)
        simp +decide only [mjs_0, mjs_1, mjs_2, mjs_3, mjs_ble, true_and, Bool.false_eq_true, if_false, if_true, Nat.reduceAdd, Nat.reduceSub, Nat.reduceLeDiff, false_implies, true_implies, not_false_eq_true, not_true_eq_false, and_true]
        refine ⟨fun _ => mj_blk rfl ?_, fun qq => absurd n2 qq⟩
        by_cases e1 : cg t = 1
        · simp +decide only [mjs_0, mjs_1, mjs_2, mjs_3, mjs_ble, true_and, Bool.false_eq_true, if_false, if_true, Nat.reduceAdd, Nat.reduceSub, Nat.reduceLeDiff, false_implies, true_implies, not_false_eq_true, not_true_eq_false, and_true, e1]
          refine mj_blk rfl ?_
          simp +decide only [mjs_0, mjs_1, mjs_2, mjs_3, mjs_ble, true_and, Bool.false_eq_true, if_false, if_true, Nat.reduceAdd, Nat.reduceSub, Nat.reduceLeDiff, false_implies, true_implies, not_false_eq_true, not_true_eq_false, and_true]
          refine mj_blk rfl ?_
          simp +decide only [mjs_0, mjs_1, mjs_2, mjs_3, mjs_ble, true_and, Bool.false_eq_true, if_false, if_true, Nat.reduceAdd, Nat.reduceSub, Nat.reduceLeDiff, false_implies, true_implies, not_false_eq_true, not_true_eq_false, and_true]
          refine mj_blk rfl ?_
          simp +decide only [mjs_0, mjs_1, mjs_2, mjs_3, mjs_ble, true_and, Bool.false_eq_true, if_false, if_true, Nat.reduceAdd, Nat.reduceSub, Nat.reduceLeDiff, false_implies, true_implies, not_false_eq_true, not_true_eq_false, and_true]
          refine mj_nv (p_11l (d := d) (bg := fi) (A := A) (g0 := (K, P, E, N, S, M, C, O, L)) (A0 := raA n A) (vb := vb) hR hM' hr' hn (P'.length + tl L') 1 1 0 (fun _ => 0) (mj_up fb 32 (n + 1) (nI fi)) P' N' L' _ (Nat.le_refl _) (by omega) (Nat.le_refl _) (by decide) (by decide) (by decide) (by omega) hA1 mjs_up_at (fun i hi => absurd hi (Nat.not_lt_zero _)) b1 c32 (rm_tr r51 ?_) (fun fb' P'' N'' L'' I'' f' len' d1 d2 d3 d4 d5 d6 d7 d8 d9 => ?_) qF)
          · intro H Lg d nc ns J Q hJ hA hq
            unfold u_5
            refine mj_blk rfl ?_
            simp +decide only [mjs_0, mjs_1, mjs_2, mjs_3, mjs_ble, true_and, Bool.false_eq_true, if_false, if_true, Nat.reduceAdd, Nat.reduceSub, Nat.reduceLeDiff, false_implies, true_implies, not_false_eq_true, not_true_eq_false, and_true, mm_sh, hm, mjs_up_at, mjs_up_c, mjs_up_f]
            refine rq_121 (c := 1) hk hk1 b4 (by decide) (fun _ => ?_) (fun e => absurd e1 e)
            simp +decide only [mjs_0, mjs_1, mjs_2, mjs_3, mjs_ble, true_and, Bool.false_eq_true, if_false, if_true, Nat.reduceAdd, Nat.reduceSub, Nat.reduceLeDiff, false_implies, true_implies, not_false_eq_true, not_true_eq_false, and_true, mm_sh, hm, mjs_up_at, mjs_up_c, mjs_up_f]
            refine mj_blk rfl ?_
            simp +decide only [mjs_0, mjs_1, mjs_2, mjs_3, mjs_ble, true_and, Bool.false_eq_true, if_false, if_true, Nat.reduceAdd, Nat.reduceSub, Nat.reduceLeDiff, false_implies, true_implies, not_false_eq_true, not_true_eq_false, and_true, mm_sh, hm, mjs_up_at, mjs_up_c, mjs_up_f]
            exact mj_nv (hq H J hx_rf hJ (raP_0 hA))
          · have h30' : I'' 30 3 = nI (fi + len') := ((rc_fb d2 3).1).trans d4.1.1
            refine mj_blk rfl ?_
            simp +decide only [mjs_0, mjs_1, mjs_2, mjs_3, mjs_ble, true_and, Bool.false_eq_true, if_false, if_true, Nat.reduceAdd, Nat.reduceSub, Nat.reduceLeDiff, false_implies, true_implies, not_false_eq_true, not_true_eq_false, and_true, mc_sh, hr, mjs_up_at, mjs_up_c, mjs_up_f, e0, h30']
            refine ⟨nI_in (by omega) (by decide), ?_⟩
            refine hQ1 _ P'' N'' L'' _ f' len' (fi + len') d1 (rc_33 d2) (ge_tr hge d3) (caP_end d4 d5) d7 d8 (qE f' len' _ (rm_e d9 ?_))
            intro H Lg d nc ns J Q hJ hA hq
            refine mj_blk rfl ?_
            simp +decide only [mjs_0, mjs_1, mjs_2, mjs_3, mjs_ble, true_and, Bool.false_eq_true, if_false, if_true, Nat.reduceAdd, Nat.reduceSub, Nat.reduceLeDiff, false_implies, true_implies, not_false_eq_true, not_true_eq_false, and_true, mm_sh, hm, mjs_up_at, mjs_up_c, mjs_up_f, e3]
            refine ⟨nI_in hn (by decide), ?_⟩
            exact hq _ _ (hx_up (by decide)) (rr_55 hJ) (raA_end d6 hA)
        · have n1 : ¬ nI (cg t) = 1 := fun e => e1 ((nI_eq (by omega) (by decide)).mp (show nI (cg t) = nI 1 from e))
          simp +decide only [mjs_0, mjs_1, mjs_2, mjs_3, mjs_ble, true_and, Bool.false_eq_true, if_false, if_true, Nat.reduceAdd, Nat.reduceSub, Nat.reduceLeDiff, false_implies, true_implies, not_false_eq_true, not_true_eq_false, and_true]
          refine ⟨fun _ => mj_blk rfl ?_, fun qq => absurd n1 qq⟩
          simp +decide only [mjs_0, mjs_1, mjs_2, mjs_3, mjs_ble, true_and, Bool.false_eq_true, if_false, if_true, Nat.reduceAdd, Nat.reduceSub, Nat.reduceLeDiff, false_implies, true_implies, not_false_eq_true, not_true_eq_false, and_true]
          refine mj_blk rfl ?_
          simp +decide only [mjs_0, mjs_1, mjs_2, mjs_3, mjs_ble, true_and, Bool.false_eq_true, if_false, if_true, Nat.reduceAdd, Nat.reduceSub, Nat.reduceLeDiff, false_implies, true_implies, not_false_eq_true, not_true_eq_false, and_true]
          refine mj_blk rfl ?_
          simp +decide only [mjs_0, mjs_1, mjs_2, mjs_3, mjs_ble, true_and, Bool.false_eq_true, if_false, if_true, Nat.reduceAdd, Nat.reduceSub, Nat.reduceLeDiff, false_implies, true_implies, not_false_eq_true, not_true_eq_false, and_true, mc_sh]
          refine cq_14 hR c32 hA.1 (by omega) (fun I2 c2 => ?_)
          simp +decide only [mjs_0, mjs_1, mjs_2, mjs_3, mjs_ble, true_and, Bool.false_eq_true, if_false, if_true, Nat.reduceAdd, Nat.reduceSub, Nat.reduceLeDiff, false_implies, true_implies, not_false_eq_true, not_true_eq_false, and_true]
          refine mj_blk rfl ?_
          simp +decide only [mjs_0, mjs_1, mjs_2, mjs_3, mjs_ble, true_and, Bool.false_eq_true, if_false, if_true, Nat.reduceAdd, Nat.reduceSub, Nat.reduceLeDiff, false_implies, true_implies, not_false_eq_true, not_true_eq_false, and_true]
          refine mj_blk rfl ?_
          simp +decide only [mjs_0, mjs_1, mjs_2, mjs_3, mjs_ble, true_and, Bool.false_eq_true, if_false, if_true, Nat.reduceAdd, Nat.reduceSub, Nat.reduceLeDiff, false_implies, true_implies, not_false_eq_true, not_true_eq_false, and_true]
          have hA2 := caP_add (t := t) (by omega) hA1
          have h30' : I2 30 3 = nI (fi + 0 + 1) := ((rc_fb c2 3).1).trans rfl
          refine mj_blk rfl ?_
          simp +decide only [mjs_0, mjs_1, mjs_2, mjs_3, mjs_ble, true_and, Bool.false_eq_true, if_false, if_true, Nat.reduceAdd, Nat.reduceSub, Nat.reduceLeDiff, false_implies, true_implies, not_false_eq_true, not_true_eq_false, and_true, mc_sh, hr, mjs_up_at, mjs_up_c, mjs_up_f, e0, h30']
          refine ⟨nI_in (by omega) (by decide), ?_⟩
          refine hQ1 _ P' N' L' _ (ud (fun _ => 0) 0 t) 1 (fi + 1) b1 (rc_33 c2) hge (caP_end hA2 (show mj_up fb 32 (n + 1) (nI fi) 32 (n + 1) = nI fi from mjs_up_at)) (by omega) (fun i hi => ?_) (qE _ 1 _ (rm_e r51 ?_))
          · have : i = 0 := by omega
            rw [this, ud_at]
            exact b4
          · intro H Lg d nc ns J Q hJ hA hq
            have e1' : (11000 : Int32) * nI n = nI (11000 * n) := pk_mul 11000 n
            have e2' : (nI (11000 * n)).toNatClampNeg = 11000 * n := nI_clamp (by omega)
            unfold u_5
            refine mj_blk rfl ?_
            simp +decide only [mjs_0, mjs_1, mjs_2, mjs_3, mjs_ble, true_and, Bool.false_eq_true, if_false, if_true, Nat.reduceAdd, Nat.reduceSub, Nat.reduceLeDiff, false_implies, true_implies, not_false_eq_true, not_true_eq_false, and_true, mm_sh, hm, mjs_up_at, mjs_up_c, mjs_up_f]
            refine rq_121 (c := 1) hk hk1 b4 (by decide) (fun e => absurd e e1) (fun _ => ?_)
            simp +decide only [mjs_0, mjs_1, mjs_2, mjs_3, mjs_ble, true_and, Bool.false_eq_true, if_false, if_true, Nat.reduceAdd, Nat.reduceSub, Nat.reduceLeDiff, false_implies, true_implies, not_false_eq_true, not_true_eq_false, and_true, mm_sh, hm, mjs_up_at, mjs_up_c, mjs_up_f]
            refine mj_blk rfl ?_
            simp +decide only [mjs_0, mjs_1, mjs_2, mjs_3, mjs_ble, true_and, Bool.false_eq_true, if_false, if_true, Nat.reduceAdd, Nat.reduceSub, Nat.reduceLeDiff, false_implies, true_implies, not_false_eq_true, not_true_eq_false, and_true, mm_sh, hm, mjs_up_at, mjs_up_c, mjs_up_f, e1', e2', e3]
            refine ⟨nI_in (by omega) (by decide), nI_in hn (by decide), ?_⟩
            exact hq _ _ (hx_tr (hx_up (by decide)) (hx_up (by decide))) (rr_55 (rr_54 hJ)) (raA_end (by decide) (raP_add (len := 0) (f := fun _ => 0) (by decide) (raP_0 hA)))
  · simp +decide only [mjs_0, mjs_1, mjs_2, mjs_3, mjs_ble, true_and, Bool.false_eq_true, if_false, if_true, Nat.reduceAdd, Nat.reduceSub, Nat.reduceLeDiff, false_implies, true_implies, not_false_eq_true, not_true_eq_false, and_true]
    refine qF g' I' a1 ?_
    intro H Lg d nc ns J Q hJ hA hq
    unfold u_0
    refine mj_blk rfl ?_
    simp +decide only [mjs_0, mjs_1, mjs_2, mjs_3, mjs_ble, true_and, Bool.false_eq_true, if_false, if_true, Nat.reduceAdd, Nat.reduceSub, Nat.reduceLeDiff, false_implies, true_implies, not_false_eq_true, not_true_eq_false, and_true, mm_sh, hm, mjs_up_at, mjs_up_c, mjs_up_f]
    refine a2 H Lg d nc ns J _ hJ (fun J1 hJ1 => ?_)
    simp +decide only [mjs_0, mjs_1, mjs_2, mjs_3, mjs_ble, true_and, Bool.false_eq_true, if_false, if_true, Nat.reduceAdd, Nat.reduceSub, Nat.reduceLeDiff, false_implies, true_implies, not_false_eq_true, not_true_eq_false, and_true, mm_sh, hm, mjs_up_at, mjs_up_c, mjs_up_f]
    exact mj_nv (f_144 hM' hJ1 hn hq)
end MJUN
