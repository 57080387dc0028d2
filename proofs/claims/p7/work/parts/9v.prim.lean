/-! PRIMITIVES EXPANDED, in both -/
section MJPX
variable {X : mj_X} {d nc ns : Nat} {Q : mj_Q} {I I' J J' H : Nat → Nat → Int32} {Lg : Nat → Nat → Int64} {Rf : Nat → Nat → Option Nat} {fb fb' : Nat → Nat → Int32} {vb : Nat → Int32} {K K' K'' : Nat × Nat × Nat} {P P' P'' : List Nat} {E : sgE} {N N' N'' : sgN} {S S' S'' : sgS} {M : sgM} {C C' C'' : sgC} {O : sgO} {L L' L'' : sgL} {t u n kc kr k0 : Nat} {x : Int32}
theorem rd_gt {g : sg} (h : RD H g J) : 0 < J 36 39 := by
  obtain ⟨f, f1, f2, f3⟩ := h.2.1
  rw [f3]
  exact (show nI 0 < nI f from nI_lt f1 f2)
/-- putDigits behind a fault -/
theorem f_138 (hM' : mj_Rt mm_R Rf) {g' : sg} (hJ : RD H g' J) (hq : Q (.inl none) (sh59, J, Lg, Rf, nc, ns)) : mj_call X mj_P (mj_bi X) (d + 3) 138 [.ref 36, .int x] (sh59, J, Lg, Rf, nc, ns) Q := by
  have hm := mm_rf hM'
  have K62 : ∀ w2 w3 : Option Value, mj_rn X (mj_hd []) (mj_call X mj_P (mj_bi X) (d + 2)) mb_138 62 [some (.ref 36), some (.int x), w2, w3] [] (sh59, J, Lg, Rf, nc, ns) Q := by
    intro w2 w3
    refine mj_blk rfl ?_
    simp +decide only [mjs_0, mjs_1, mjs_2, mjs_3, mjs_ble, true_and, Bool.false_eq_true, if_false, if_true, Nat.reduceAdd, Nat.reduceSub, Nat.reduceLeDiff, false_implies, true_implies, not_false_eq_true, not_true_eq_false, and_true]
    refine ⟨fun q => mj_blk rfl ?_, fun q => mj_blk rfl ?_⟩
    · simp +decide only [mjs_0, mjs_1, mjs_2, mjs_3, mjs_ble, true_and, Bool.false_eq_true, if_false, if_true, Nat.reduceAdd, Nat.reduceSub, Nat.reduceLeDiff, false_implies, true_implies, not_false_eq_true, not_true_eq_false, and_true]
      exact hq
    · simp +decide only [mjs_0, mjs_1, mjs_2, mjs_3, mjs_ble, true_and, Bool.false_eq_true, if_false, if_true, Nat.reduceAdd, Nat.reduceSub, Nat.reduceLeDiff, false_implies, true_implies, not_false_eq_true, not_true_eq_false, and_true, mm_sh, hm, mjs_up_at, mjs_up_c, mjs_up_f]
      refine f_136 s59_36 (rd_ne hJ) ?_
      simp +decide only [mjs_0, mjs_1, mjs_2, mjs_3, mjs_ble, true_and, Bool.false_eq_true, if_false, if_true, Nat.reduceAdd, Nat.reduceSub, Nat.reduceLeDiff, false_implies, true_implies, not_false_eq_true, not_true_eq_false, and_true]
      refine mj_blk rfl ?_
      simp +decide only [mjs_0, mjs_1, mjs_2, mjs_3, mjs_ble, true_and, Bool.false_eq_true, if_false, if_true, Nat.reduceAdd, Nat.reduceSub, Nat.reduceLeDiff, false_implies, true_implies, not_false_eq_true, not_true_eq_false, and_true]
      exact hq
  have d10 : ∀ a : Nat, a < 2 ^ 63 → lN a / 10 = lN (a / 10) := fun a h => pk_lDiv (b := 10) h (by decide) (by decide)
  have L33 : ∀ (f a : Nat), a < 10 ^ f → a < 2 ^ 63 → mj_rn X (mj_hd []) (mj_call X mj_P (mj_bi X) (d + 2)) mb_138 33 [some (.ref 36), some (.int x), some (.long (lN a)), none] [] (sh59, J, Lg, Rf, nc, ns) Q := by
    intro f
    induction f with
    | zero =>
      intro a h1 h2
      obtain rfl : a = 0 := by omega
      refine mj_blk rfl ?_
      simp +decide only [mjs_0, mjs_1, mjs_2, mjs_3, mjs_ble, true_and, Bool.false_eq_true, if_false, if_true, Nat.reduceAdd, Nat.reduceSub, Nat.reduceLeDiff, false_implies, true_implies, not_false_eq_true, not_true_eq_false, and_true]
      exact K62 _ _
    | succ f ih =>
      intro a h1 h2
      refine mj_blk rfl ?_
      simp +decide only [mjs_0, mjs_1, mjs_2, mjs_3, mjs_ble, true_and, Bool.false_eq_true, if_false, if_true, Nat.reduceAdd, Nat.reduceSub, Nat.reduceLeDiff, false_implies, true_implies, not_false_eq_true, not_true_eq_false, and_true]
      refine ⟨fun q => K62 _ _, fun q => mj_blk rfl ?_⟩
      simp +decide only [mjs_0, mjs_1, mjs_2, mjs_3, mjs_ble, true_and, Bool.false_eq_true, if_false, if_true, Nat.reduceAdd, Nat.reduceSub, Nat.reduceLeDiff, false_implies, true_implies, not_false_eq_true, not_true_eq_false, and_true, mm_sh, hm, mjs_up_at, mjs_up_c, mjs_up_f]
      refine f_136 s59_36 (rd_ne hJ) ?_
      simp +decide only [mjs_0, mjs_1, mjs_2, mjs_3, mjs_ble, true_and, Bool.false_eq_true, if_false, if_true, Nat.reduceAdd, Nat.reduceSub, Nat.reduceLeDiff, false_implies, true_implies, not_false_eq_true, not_true_eq_false, and_true, d10 a h2]
      refine ih (a / 10) ?_ (by omega)
      rw [Nat.pow_succ] at h1
      omega
  have K12 : ∀ (a : Nat) (w2 w3 : Option Value), a ≤ 2147483648 → mj_rn X (mj_hd []) (mj_call X mj_P (mj_bi X) (d + 2)) mb_138 12 [some (.ref 36), some (.int x), w2, w3] [.long (lN a)] (sh59, J, Lg, Rf, nc, ns) Q := by
    intro a w2 w3 ha
    refine mj_blk rfl ?_
    simp +decide only [mjs_0, mjs_1, mjs_2, mjs_3, mjs_ble, true_and, Bool.false_eq_true, if_false, if_true, Nat.reduceAdd, Nat.reduceSub, Nat.reduceLeDiff, false_implies, true_implies, not_false_eq_true, not_true_eq_false, and_true, mm_sh, hm, mjs_up_at, mjs_up_c, mjs_up_f]
    refine f_136 s59_36 (rd_ne hJ) ?_
    simp +decide only [mjs_0, mjs_1, mjs_2, mjs_3, mjs_ble, true_and, Bool.false_eq_true, if_false, if_true, Nat.reduceAdd, Nat.reduceSub, Nat.reduceLeDiff, false_implies, true_implies, not_false_eq_true, not_true_eq_false, and_true, d10 a (by omega)]
    exact L33 10 (a / 10) (by omega) (by omega)
  refine mj_enter (z := (4, [], mb_138)) (by decide) rfl rfl ?_
  refine mj_blk rfl ?_
  simp +decide only [mjs_0, mjs_1, mjs_2, mjs_3, mjs_ble, true_and, Bool.false_eq_true, if_false, if_true, Nat.reduceAdd, Nat.reduceSub, Nat.reduceLeDiff, false_implies, true_implies, not_false_eq_true, not_true_eq_false, and_true]
  refine ⟨fun q => mj_blk rfl ?_, fun q => mj_blk rfl ?_⟩
  · obtain ⟨m, m1, rfl⟩ := nI_of (Int32.not_lt.mpr q)
    have e : (nI m).toInt64 = lN m := nI_l m1
    simp +decide only [mjs_0, mjs_1, mjs_2, mjs_3, mjs_ble, true_and, Bool.false_eq_true, if_false, if_true, Nat.reduceAdd, Nat.reduceSub, Nat.reduceLeDiff, false_implies, true_implies, not_false_eq_true, not_true_eq_false, and_true, e]
    exact K12 m _ _ (by omega)
  · by_cases hx : x = -2147483648
    · subst hx
      have e : -(-2147483648 : Int32).toInt64 = lN 2147483648 := by decide
      simp +decide only [mjs_0, mjs_1, mjs_2, mjs_3, mjs_ble, true_and, Bool.false_eq_true, if_false, if_true, Nat.reduceAdd, Nat.reduceSub, Nat.reduceLeDiff, false_implies, true_implies, not_false_eq_true, not_true_eq_false, and_true, e]
      exact K12 2147483648 _ _ (Nat.le_refl _)
    · have e := nab_l (Int32.not_le.mp q) hx
      have := nab_lt hx
      simp +decide only [mjs_0, mjs_1, mjs_2, mjs_3, mjs_ble, true_and, Bool.false_eq_true, if_false, if_true, Nat.reduceAdd, Nat.reduceSub, Nat.reduceLeDiff, false_implies, true_implies, not_false_eq_true, not_true_eq_false, and_true, e]
      exact K12 (nab x) _ _ (by omega)
/-- more room does no harm -/
theorem nu_mono {kc' kr' : Nat} (hN : NU X Rf vb kc kr n) (h1 : kc ≤ kc') (h2 : kr ≤ kr') : NU X Rf vb kc' kr' n := fun fb K P E N S M C O L nc ns Lg I Q D hD hn hr' hv hw hp h hQ1 hQ3 => hN fb K P E N S M C O L nc ns Lg I Q D (by omega) hn hr' hv hw hp h (fun fb' K' P' N' S' C' L' I' x a1 a2 a3 a4 a5 a6 => hQ1 fb' K' P' N' S' C' L' I' x a1 a2 a3 a4 a5 (rx_k kr' a6 h2)) (fun g' I' a1 a2 => hQ3 g' I' a1 (ry_k kr' a2 h2))
theorem xp_mono {kc' kr' : Nat} (hP : XP X Rf vb kc kr n) (h1 : kc ≤ kc') (h2 : kr ≤ kr') : XP X Rf vb kc' kr' n := fun fb K P E N S M C O L t nc ns Lg I Q D hD hn hr' hv hw hp ht hx h hQ1 hQ3 => hP fb K P E N S M C O L t nc ns Lg I Q D (by omega) hn hr' hv hw hp ht hx h (fun fb' K' P' N' S' C' L' I' a1 a2 a3 a4 a5 a6 => hQ1 fb' K' P' N' S' C' L' I' a1 a2 a3 a4 a5 (rx_k kr' a6 h2)) (fun g' I' a1 a2 => hQ3 g' I' a1 (ry_k kr' a2 h2))
theorem gv_gst (hv : gv (K, P, E, N, S, M, C, O, L)) (ht : tv N.2.2 t) : gv (K, gst N t P, E, N, S, M, C, O, L) ∧ (gst N t P).length ≤ P.length + 41 := by
  have hk : N.2.2 ≤ 1036 := (gv_d hv).2.2.1.2.1
  unfold gst
  split
  · rename_i hn
    have hx := tv_nx hk ht hn
    have hb := (gv_d hv).2.2.1.2.2.1 _ hx
    refine ⟨gv_P hv (fun z hz => ?_), ?_⟩
    · rcases List.mem_cons.mp hz with rfl | hz
      · exact pch_tv (by decide)
      · exact spl_mem (p := fun t => tv N.2.2 t) (fun j hj => pch_tv (hb.2 j hj)) (gv_d hv).1 z hz
    · rw [List.length_cons, spl_len]
      omega
  · refine ⟨gv_P1 hv (pch_tv (by omega)), ?_⟩
    rw [List.length_cons]
    omega
theorem gv_pnm (hv : gv (K, P, E, N, S, M, C, O, L)) : gv (K, pnm x P, E, N, S, M, C, O, L) ∧ (pnm x P).length ≤ P.length + 11 := by
  have l1 := pdg_len (f := 9) (a := nab x / 10) (P := pch (48 + nab x % 10) :: P)
  rw [List.length_cons] at l1
  have m1 : ∀ z ∈ pdg 9 (nab x / 10) (pch (48 + nab x % 10) :: P), tv N.2.2 z := pdg_mem (p := fun t => tv N.2.2 t) (fun c hc => pch_tv hc) (fun z hz => by
    rcases List.mem_cons.mp hz with rfl | hz
    · exact pch_tv (by omega)
    · exact (gv_d hv).1 z hz)
  unfold pnm
  split
  · refine ⟨gv_P hv (fun z hz => ?_), ?_⟩
    · rcases List.mem_cons.mp hz with rfl | hz
      · exact pch_tv (by decide)
      · exact m1 z hz
    · rw [List.length_cons]
      omega
  · exact ⟨gv_P hv m1, by omega⟩
theorem gv_grm (hv : gv (K, P, E, N, S, M, C, O, L)) (hn : n ≤ 9999) : gv (K, grm n P, E, N, S, M, C, O, L) ∧ (grm n P).length ≤ P.length + 22 := by
  unfold grm
  have a1 := rdg_len (q := n % 10) (a := 105) (b := 118) (c := 120) (P := P)
  have a2 := rdg_len (q := n / 10 % 10) (a := 120) (b := 108) (c := 99) (P := rdg (n % 10) 105 118 120 P)
  have a3 := rdg_len (q := n / 100 % 10) (a := 99) (b := 100) (c := 109) (P := rdg (n / 10 % 10) 120 108 99 (rdg (n % 10) 105 118 120 P))
  refine ⟨gv_P hv (rpl_mem (p := fun t => tv N.2.2 t) (pch_tv (by decide)) (rdg_mem (p := fun t => tv N.2.2 t) (pch_tv (by decide)) (pch_tv (by decide)) (pch_tv (by decide)) (rdg_mem (p := fun t => tv N.2.2 t) (pch_tv (by decide)) (pch_tv (by decide)) (pch_tv (by decide)) (rdg_mem (p := fun t => tv N.2.2 t) (pch_tv (by decide)) (pch_tv (by decide)) (pch_tv (by decide)) (gv_d hv).1)))), ?_⟩
  rw [rpl_len]
  omega
/-- what is expandable is no character and has no mark -/
theorem gx_t (h : gx S t) : ¬ t / 1048576 % 2 = 1 ∧ ¬ t < 3328 := by
  unfold gx gm at h
  refine ⟨fun e => ?_, fun e => ?_⟩
  · rw [if_pos e] at h
    omega
  · by_cases e1 : t / 1048576 % 2 = 1
    · omega
    · rw [if_neg e1, if_pos e] at h
      omega
theorem tv_mk {k : Nat} (hk : k ≤ 1036) (ht : tv k t) (h : gx S t) : tv k (t + 1048576) ∧ rt (t + 1048576) = rt t + 524288 ∧ t < 66572 := by
  obtain ⟨h1, h2⟩ := gx_t h
  have hb : tb k t := by
    rcases ht with ht | ht
    · exact ht
    · have := tb_lt hk ht.2.2
      omega
  have hl := tb_lt hk hb
  refine ⟨Or.inr ⟨by omega, by omega, by rw [Nat.add_sub_cancel]; exact hb⟩, ?_, hl⟩
  rw [rt_tb hk hb]
  unfold rt
  rw [if_pos (by omega), Nat.add_sub_cancel]
  omega
theorem x_csname (hR : mj_Rt mp_R Rf) (hM' : mj_Rt mm_R Rf) (hP : XP X Rf vb kc kr n) (hX : XD X Rf vb (kc + 1) (kr + 1) n) (hN : NU X Rf vb kc kr n) (hT : X.2.1[0]? = some mj_t1) {D : Nat} (hD : kc + 10 ≤ D) (hn : K.2.2 + n = 40) (hr' : nc + 1 ≤ X.2.2.1 ∧ ns + 6 ≤ X.2.2.2) (hv : gv (K, P, E, N, S, M, C, O, L)) (hw : gw K S) (hk0 : K.1 = k0 + 1) (hsv : S.2.2.2 ≤ k0) (h1 : 1 ≤ K.2.2) (hE1 : em_v (K.2.2 - 1) E) (hp : P.length ≤ 10000) (h : RC fb vb (K, P, E, N, S, M, C, O, L) I)
    (hQ1 : ∀ fb' K' P' N' S' C' L' I', gv (K', P', E, N', S', M, C', O, L') → RC fb' vb (K', P', E, N', S', M, C', O, L') I' → P'.length ≤ 10060 → xr k0 K N S C L K' N' S' C' L' → RX X Rf (kr + 14) 134 [.ref 36, .int (nI (rt t)), .int (nI 2)] (K, P, E, N, S, M, C, O, L) na none (K', P', E, N', S', M, C', O, L') na → Q (.inl none) (sh59, I', Lg, Rf, nc, ns))
    (hQ3 : ∀ g' I', RCf fb vb g' I' → RY X Rf (kr + 14) 134 [.ref 36, .int (nI (rt t)), .int (nI 2)] (K, P, E, N, S, M, C, O, L) na none g' → Q (.inr 500) (sh59, I', Lg, Rf, nc + 1, ns + 6)) :
    mj_call X mj_P (mj_bi X) D 26 [.ref 28, .int (nI 3), .int (nI t)] (sh59, I, Lg, Rf, nc, ns) Q := by
  have hr := mc_rf hR
  have hm := mm_rf hM'
  obtain ⟨d, rfl⟩ : ∃ d, D = d + 10 := ⟨D - 10, by omega⟩
  have qF : ∀ g' I', RCf fb vb g' I' → RMf X Rf mb_134 (kr + 13) 0 [some (.ref 36), some (.int (nI (rt t))), some (.int (nI 2)), none, none, none, none] [] (K, P, E, N, S, M, C, O, L) na none g' → Q (.inr 500) (sh59, I', Lg, Rf, nc + 1, ns + 6) := fun g' I' a1 a2 => hQ3 g' I' a1 (ry_in (z := 7) (by decide) rfl rfl rfl a2)
  have qE : ∀ fb' K' P' N' S' C' L' I', gv (K', P', E, N', S', M, C', O, L') → RC fb' vb (K', P', E, N', S', M, C', O, L') I' → P'.length ≤ 10060 → xr k0 K N S C L K' N' S' C' L' → RMe X Rf mb_134 (kr + 13) 0 [some (.ref 36), some (.int (nI (rt t))), some (.int (nI 2)), none, none, none, none] [] (K, P, E, N, S, M, C, O, L) na none (K', P', E, N', S', M, C', O, L') na → Q (.inl none) (sh59, I', Lg, Rf, nc, ns) := fun fb' K' P' N' S' C' L' I' a1 a2 a3 a4 a5 => hQ1 fb' K' P' N' S' C' L' I' a1 a2 a3 a4 (rx_in (z := 7) (by decide) rfl rfl rfl a5)
  refine mj_enter (z := (5, [], mb_26)) (by decide) rfl rfl ?_
  refine mj_blk rfl ?_
  simp +decide only [mjs_0, mjs_1, mjs_2, mjs_3, mjs_ble, true_and, Bool.false_eq_true, if_false, if_true, Nat.reduceAdd, Nat.reduceSub, Nat.reduceLeDiff, false_implies, true_implies, not_false_eq_true, not_true_eq_false, and_true]
  refine mj_blk rfl ?_
  simp +decide only [mjs_0, mjs_1, mjs_2, mjs_3, mjs_ble, true_and, Bool.false_eq_true, if_false, if_true, Nat.reduceAdd, Nat.reduceSub, Nat.reduceLeDiff, false_implies, true_implies, not_false_eq_true, not_true_eq_false, and_true, mc_sh]
  refine p_28 hR hM' hX (by omega) hn hr' hv hw hk0 hsv h1 hE1 hp h (fun fb1 K1 P1 N1 S1 C1 L1 I1 a1 a2 a3 a4 a5 => ?_) (fun g1 I1 a1 a2 => ?_)
  · simp +decide only [mjs_0, mjs_1, mjs_2, mjs_3, mjs_ble, true_and, Bool.false_eq_true, if_false, if_true, Nat.reduceAdd, Nat.reduceSub, Nat.reduceLeDiff, false_implies, true_implies, not_false_eq_true, not_true_eq_false, and_true]
    refine mj_blk rfl ?_
    simp +decide only [mjs_0, mjs_1, mjs_2, mjs_3, mjs_ble, true_and, Bool.false_eq_true, if_false, if_true, Nat.reduceAdd, Nat.reduceSub, Nat.reduceLeDiff, false_implies, true_implies, not_false_eq_true, not_true_eq_false, and_true]
    refine qE fb1 K1 P1 N1 S1 C1 L1 I1 a1 a2 (by omega) a4 ?_
    intro H Lg d nc ns J Q hJ hA hq
    obtain ⟨D, hD, hDk⟩ : ∃ D, d + (kr + 13) = D + 13 ∧ kr ≤ D := ⟨d + kr, by omega, by omega⟩
    rw [hD]
    try rw [hD] at hq
    refine mj_blk rfl ?_
    simp +decide only [mjs_0, mjs_1, mjs_2, mjs_3, mjs_ble, true_and, Bool.false_eq_true, if_false, if_true, Nat.reduceAdd, Nat.reduceSub, Nat.reduceLeDiff, false_implies, true_implies, not_false_eq_true, not_true_eq_false, and_true, mm_sh, hm, mjs_up_at, mjs_up_c, mjs_up_f]
    refine mj_blk rfl ?_
    simp +decide only [mjs_0, mjs_1, mjs_2, mjs_3, mjs_ble, true_and, Bool.false_eq_true, if_false, if_true, Nat.reduceAdd, Nat.reduceSub, Nat.reduceLeDiff, false_implies, true_implies, not_false_eq_true, not_true_eq_false, and_true, mm_sh, hm, mjs_up_at, mjs_up_c, mjs_up_f]
    refine rx_at a5 (by omega) hJ trivial (fun H1 J1 c1 c2 _ => ?_)
    simp +decide only [mjs_0, mjs_1, mjs_2, mjs_3, mjs_ble, true_and, Bool.false_eq_true, if_false, if_true, Nat.reduceAdd, Nat.reduceSub, Nat.reduceLeDiff, false_implies, true_implies, not_false_eq_true, not_true_eq_false, and_true, mm_sh, hm, mjs_up_at, mjs_up_c, mjs_up_f]
    refine mj_blk rfl ?_
    simp +decide only [mjs_0, mjs_1, mjs_2, mjs_3, mjs_ble, true_and, Bool.false_eq_true, if_false, if_true, Nat.reduceAdd, Nat.reduceSub, Nat.reduceLeDiff, false_implies, true_implies, not_false_eq_true, not_true_eq_false, and_true, mm_sh, hm, mjs_up_at, mjs_up_c, mjs_up_f]
    exact hq H1 J1 c1 c2 trivial
  · simp +decide only [mjs_0, mjs_1, mjs_2, mjs_3, mjs_ble, true_and, Bool.false_eq_true, if_false, if_true, Nat.reduceAdd, Nat.reduceSub, Nat.reduceLeDiff, false_implies, true_implies, not_false_eq_true, not_true_eq_false, and_true]
    refine qF g1 I1 a1 ?_
    intro H Lg d nc ns J Q hJ hA hq
    obtain ⟨D, hD, hDk⟩ : ∃ D, d + (kr + 13) = D + 13 ∧ kr ≤ D := ⟨d + kr, by omega, by omega⟩
    rw [hD]
    try rw [hD] at hq
    refine mj_blk rfl ?_
    simp +decide only [mjs_0, mjs_1, mjs_2, mjs_3, mjs_ble, true_and, Bool.false_eq_true, if_false, if_true, Nat.reduceAdd, Nat.reduceSub, Nat.reduceLeDiff, false_implies, true_implies, not_false_eq_true, not_true_eq_false, and_true, mm_sh, hm, mjs_up_at, mjs_up_c, mjs_up_f]
    refine mj_blk rfl ?_
    simp +decide only [mjs_0, mjs_1, mjs_2, mjs_3, mjs_ble, true_and, Bool.false_eq_true, if_false, if_true, Nat.reduceAdd, Nat.reduceSub, Nat.reduceLeDiff, false_implies, true_implies, not_false_eq_true, not_true_eq_false, and_true, mm_sh, hm, mjs_up_at, mjs_up_c, mjs_up_f]
    refine ry_at a2 (by omega) hJ trivial (fun J1 c1 => ?_)
    simp +decide only [mjs_0, mjs_1, mjs_2, mjs_3, mjs_ble, true_and, Bool.false_eq_true, if_false, if_true, Nat.reduceAdd, Nat.reduceSub, Nat.reduceLeDiff, false_implies, true_implies, not_false_eq_true, not_true_eq_false, and_true, mm_sh, hm, mjs_up_at, mjs_up_c, mjs_up_f]
    refine mj_blk rfl ?_
    simp +decide only [mjs_0, mjs_1, mjs_2, mjs_3, mjs_ble, true_and, Bool.false_eq_true, if_false, if_true, Nat.reduceAdd, Nat.reduceSub, Nat.reduceLeDiff, false_implies, true_implies, not_false_eq_true, not_true_eq_false, and_true, mm_sh, hm, mjs_up_at, mjs_up_c, mjs_up_f]
    exact hq J1 c1
theorem x_string (hR : mj_Rt mp_R Rf) (hM' : mj_Rt mm_R Rf) (hP : XP X Rf vb kc kr n) (hX : XD X Rf vb (kc + 1) (kr + 1) n) (hN : NU X Rf vb kc kr n) (hT : X.2.1[0]? = some mj_t1) {D : Nat} (hD : kc + 10 ≤ D) (hn : K.2.2 + n = 40) (hr' : nc + 1 ≤ X.2.2.1 ∧ ns + 6 ≤ X.2.2.2) (hv : gv (K, P, E, N, S, M, C, O, L)) (hw : gw K S) (hk0 : K.1 = k0 + 1) (hsv : S.2.2.2 ≤ k0) (h1 : 1 ≤ K.2.2) (hE1 : em_v (K.2.2 - 1) E) (hp : P.length ≤ 10000) (h : RC fb vb (K, P, E, N, S, M, C, O, L) I)
    (hQ1 : ∀ fb' K' P' N' S' C' L' I', gv (K', P', E, N', S', M, C', O, L') → RC fb' vb (K', P', E, N', S', M, C', O, L') I' → P'.length ≤ 10060 → xr k0 K N S C L K' N' S' C' L' → RX X Rf (kr + 14) 134 [.ref 36, .int (nI (rt t)), .int (nI 3)] (K, P, E, N, S, M, C, O, L) na none (K', P', E, N', S', M, C', O, L') na → Q (.inl none) (sh59, I', Lg, Rf, nc, ns))
    (hQ3 : ∀ g' I', RCf fb vb g' I' → RY X Rf (kr + 14) 134 [.ref 36, .int (nI (rt t)), .int (nI 3)] (K, P, E, N, S, M, C, O, L) na none g' → Q (.inr 500) (sh59, I', Lg, Rf, nc + 1, ns + 6)) :
    mj_call X mj_P (mj_bi X) D 26 [.ref 28, .int (nI 4), .int (nI t)] (sh59, I, Lg, Rf, nc, ns) Q := by
  have hr := mc_rf hR
  have hm := mm_rf hM'
  obtain ⟨d, rfl⟩ : ∃ d, D = d + 10 := ⟨D - 10, by omega⟩
  have qF : ∀ g' I', RCf fb vb g' I' → RMf X Rf mb_134 (kr + 13) 0 [some (.ref 36), some (.int (nI (rt t))), some (.int (nI 3)), none, none, none, none] [] (K, P, E, N, S, M, C, O, L) na none g' → Q (.inr 500) (sh59, I', Lg, Rf, nc + 1, ns + 6) := fun g' I' a1 a2 => hQ3 g' I' a1 (ry_in (z := 7) (by decide) rfl rfl rfl a2)
  have qE : ∀ fb' K' P' N' S' C' L' I', gv (K', P', E, N', S', M, C', O, L') → RC fb' vb (K', P', E, N', S', M, C', O, L') I' → P'.length ≤ 10060 → xr k0 K N S C L K' N' S' C' L' → RMe X Rf mb_134 (kr + 13) 0 [some (.ref 36), some (.int (nI (rt t))), some (.int (nI 3)), none, none, none, none] [] (K, P, E, N, S, M, C, O, L) na none (K', P', E, N', S', M, C', O, L') na → Q (.inl none) (sh59, I', Lg, Rf, nc, ns) := fun fb' K' P' N' S' C' L' I' a1 a2 a3 a4 a5 => hQ1 fb' K' P' N' S' C' L' I' a1 a2 a3 a4 (rx_in (z := 7) (by decide) rfl rfl rfl a5)
  refine mj_enter (z := (5, [], mb_26)) (by decide) rfl rfl ?_
  refine mj_blk rfl ?_
  simp +decide only [mjs_0, mjs_1, mjs_2, mjs_3, mjs_ble, true_and, Bool.false_eq_true, if_false, if_true, Nat.reduceAdd, Nat.reduceSub, Nat.reduceLeDiff, false_implies, true_implies, not_false_eq_true, not_true_eq_false, and_true]
  refine mj_blk rfl ?_
  simp +decide only [mjs_0, mjs_1, mjs_2, mjs_3, mjs_ble, true_and, Bool.false_eq_true, if_false, if_true, Nat.reduceAdd, Nat.reduceSub, Nat.reduceLeDiff, false_implies, true_implies, not_false_eq_true, not_true_eq_false, and_true, mc_sh, hr, mjs_up_at, mjs_up_c, mjs_up_f]
  refine p_85n hR hM' hv h hp hr' (fun t1 P1 N1 L1 I1 a1 a2 a3 a4 a5 a6 a7 a8 => ?_) (fun g1 I1 a1 a2 => ?_)
  · obtain ⟨g1, g2⟩ := gv_gst a1 a7
    simp +decide only [mjs_0, mjs_1, mjs_2, mjs_3, mjs_ble, true_and, Bool.false_eq_true, if_false, if_true, Nat.reduceAdd, Nat.reduceSub, Nat.reduceLeDiff, false_implies, true_implies, not_false_eq_true, not_true_eq_false, and_true, mc_sh]
    refine cq_29 hR a2 a1 a7 (by omega) (fun I2 c2 => ?_)
    simp +decide only [mjs_0, mjs_1, mjs_2, mjs_3, mjs_ble, true_and, Bool.false_eq_true, if_false, if_true, Nat.reduceAdd, Nat.reduceSub, Nat.reduceLeDiff, false_implies, true_implies, not_false_eq_true, not_true_eq_false, and_true]
    refine mj_blk rfl ?_
    simp +decide only [mjs_0, mjs_1, mjs_2, mjs_3, mjs_ble, true_and, Bool.false_eq_true, if_false, if_true, Nat.reduceAdd, Nat.reduceSub, Nat.reduceLeDiff, false_implies, true_implies, not_false_eq_true, not_true_eq_false, and_true]
    refine qE fb K (gst N1 t1 P1) N1 S C L1 I2 g1 c2 (by omega) (xr_of (by omega) (xs_get (P := P) (P' := P1) a3 (by omega) a6)) ?_
    intro H Lg d nc ns J Q hJ hA hq
    obtain ⟨D, hD, hDk⟩ : ∃ D, d + (kr + 13) = D + 13 ∧ kr ≤ D := ⟨d + kr, by omega, by omega⟩
    rw [hD]
    try rw [hD] at hq
    refine mj_blk rfl ?_
    simp +decide only [mjs_0, mjs_1, mjs_2, mjs_3, mjs_ble, true_and, Bool.false_eq_true, if_false, if_true, Nat.reduceAdd, Nat.reduceSub, Nat.reduceLeDiff, false_implies, true_implies, not_false_eq_true, not_true_eq_false, and_true, mm_sh, hm, mjs_up_at, mjs_up_c, mjs_up_f]
    refine mj_blk rfl ?_
    simp +decide only [mjs_0, mjs_1, mjs_2, mjs_3, mjs_ble, true_and, Bool.false_eq_true, if_false, if_true, Nat.reduceAdd, Nat.reduceSub, Nat.reduceLeDiff, false_implies, true_implies, not_false_eq_true, not_true_eq_false, and_true, mm_sh, hm, mjs_up_at, mjs_up_c, mjs_up_f]
    refine a8 H Lg (D + 7) nc ns J _ hJ (fun J1 c1 => ?_)
    simp +decide only [mjs_0, mjs_1, mjs_2, mjs_3, mjs_ble, true_and, Bool.false_eq_true, if_false, if_true, Nat.reduceAdd, Nat.reduceSub, Nat.reduceLeDiff, false_implies, true_implies, not_false_eq_true, not_true_eq_false, and_true, mm_sh, hm, mjs_up_at, mjs_up_c, mjs_up_f]
    refine rq_137 hM' c1 a1 a7 (by omega) (fun J2 c3 => ?_)
    simp +decide only [mjs_0, mjs_1, mjs_2, mjs_3, mjs_ble, true_and, Bool.false_eq_true, if_false, if_true, Nat.reduceAdd, Nat.reduceSub, Nat.reduceLeDiff, false_implies, true_implies, not_false_eq_true, not_true_eq_false, and_true, mm_sh, hm, mjs_up_at, mjs_up_c, mjs_up_f]
    refine mj_blk rfl ?_
    simp +decide only [mjs_0, mjs_1, mjs_2, mjs_3, mjs_ble, true_and, Bool.false_eq_true, if_false, if_true, Nat.reduceAdd, Nat.reduceSub, Nat.reduceLeDiff, false_implies, true_implies, not_false_eq_true, not_true_eq_false, and_true, mm_sh, hm, mjs_up_at, mjs_up_c, mjs_up_f]
    exact hq H J2 hx_rf c3 trivial
  · simp +decide only [mjs_0, mjs_1, mjs_2, mjs_3, mjs_ble, true_and, Bool.false_eq_true, if_false, if_true, Nat.reduceAdd, Nat.reduceSub, Nat.reduceLeDiff, false_implies, true_implies, not_false_eq_true, not_true_eq_false, and_true]
    refine qF g1 I1 a1 ?_
    intro H Lg d nc ns J Q hJ hA hq
    obtain ⟨D, hD, hDk⟩ : ∃ D, d + (kr + 13) = D + 13 ∧ kr ≤ D := ⟨d + kr, by omega, by omega⟩
    rw [hD]
    try rw [hD] at hq
    refine mj_blk rfl ?_
    simp +decide only [mjs_0, mjs_1, mjs_2, mjs_3, mjs_ble, true_and, Bool.false_eq_true, if_false, if_true, Nat.reduceAdd, Nat.reduceSub, Nat.reduceLeDiff, false_implies, true_implies, not_false_eq_true, not_true_eq_false, and_true, mm_sh, hm, mjs_up_at, mjs_up_c, mjs_up_f]
    refine mj_blk rfl ?_
    simp +decide only [mjs_0, mjs_1, mjs_2, mjs_3, mjs_ble, true_and, Bool.false_eq_true, if_false, if_true, Nat.reduceAdd, Nat.reduceSub, Nat.reduceLeDiff, false_implies, true_implies, not_false_eq_true, not_true_eq_false, and_true, mm_sh, hm, mjs_up_at, mjs_up_c, mjs_up_f]
    refine a2 H Lg (D + 7) nc ns J _ hJ (fun J1 c1 => ?_)
    simp +decide only [mjs_0, mjs_1, mjs_2, mjs_3, mjs_ble, true_and, Bool.false_eq_true, if_false, if_true, Nat.reduceAdd, Nat.reduceSub, Nat.reduceLeDiff, false_implies, true_implies, not_false_eq_true, not_true_eq_false, and_true, mm_sh, hm, mjs_up_at, mjs_up_c, mjs_up_f]
    refine mj_enter (z := (5, [], mb_137)) (by decide) rfl rfl ?_
    refine mj_blk rfl ?_
    simp +decide only [mjs_0, mjs_1, mjs_2, mjs_3, mjs_ble, true_and, Bool.false_eq_true, if_false, if_true, Nat.reduceAdd, Nat.reduceSub, Nat.reduceLeDiff, false_implies, true_implies, not_false_eq_true, not_true_eq_false, and_true, mm_sh, hm, mjs_up_at, mjs_up_c, mjs_up_f]
    refine ⟨fun q => absurd q (rd_nle c1), fun _ => mj_blk rfl ?_⟩
    simp +decide only [mjs_0, mjs_1, mjs_2, mjs_3, mjs_ble, true_and, Bool.false_eq_true, if_false, if_true, Nat.reduceAdd, Nat.reduceSub, Nat.reduceLeDiff, false_implies, true_implies, not_false_eq_true, not_true_eq_false, and_true, mm_sh, hm, mjs_up_at, mjs_up_c, mjs_up_f]
    refine mj_blk rfl ?_
    simp +decide only [mjs_0, mjs_1, mjs_2, mjs_3, mjs_ble, true_and, Bool.false_eq_true, if_false, if_true, Nat.reduceAdd, Nat.reduceSub, Nat.reduceLeDiff, false_implies, true_implies, not_false_eq_true, not_true_eq_false, and_true, mm_sh, hm, mjs_up_at, mjs_up_c, mjs_up_f]
    exact hq J1 c1
theorem x_number (hR : mj_Rt mp_R Rf) (hM' : mj_Rt mm_R Rf) (hP : XP X Rf vb kc kr n) (hX : XD X Rf vb (kc + 1) (kr + 1) n) (hN : NU X Rf vb kc kr n) (hT : X.2.1[0]? = some mj_t1) {D : Nat} (hD : kc + 10 ≤ D) (hn : K.2.2 + n = 40) (hr' : nc + 1 ≤ X.2.2.1 ∧ ns + 6 ≤ X.2.2.2) (hv : gv (K, P, E, N, S, M, C, O, L)) (hw : gw K S) (hk0 : K.1 = k0 + 1) (hsv : S.2.2.2 ≤ k0) (h1 : 1 ≤ K.2.2) (hE1 : em_v (K.2.2 - 1) E) (hp : P.length ≤ 10000) (h : RC fb vb (K, P, E, N, S, M, C, O, L) I)
    (hQ1 : ∀ fb' K' P' N' S' C' L' I', gv (K', P', E, N', S', M, C', O, L') → RC fb' vb (K', P', E, N', S', M, C', O, L') I' → P'.length ≤ 10060 → xr k0 K N S C L K' N' S' C' L' → RX X Rf (kr + 14) 134 [.ref 36, .int (nI (rt t)), .int (nI 4)] (K, P, E, N, S, M, C, O, L) na none (K', P', E, N', S', M, C', O, L') na → Q (.inl none) (sh59, I', Lg, Rf, nc, ns))
    (hQ3 : ∀ g' I', RCf fb vb g' I' → RY X Rf (kr + 14) 134 [.ref 36, .int (nI (rt t)), .int (nI 4)] (K, P, E, N, S, M, C, O, L) na none g' → Q (.inr 500) (sh59, I', Lg, Rf, nc + 1, ns + 6)) :
    mj_call X mj_P (mj_bi X) D 26 [.ref 28, .int (nI 5), .int (nI t)] (sh59, I, Lg, Rf, nc, ns) Q := by
  have hr := mc_rf hR
  have hm := mm_rf hM'
  obtain ⟨d, rfl⟩ : ∃ d, D = d + 10 := ⟨D - 10, by omega⟩
  have qF : ∀ g' I', RCf fb vb g' I' → RMf X Rf mb_134 (kr + 13) 0 [some (.ref 36), some (.int (nI (rt t))), some (.int (nI 4)), none, none, none, none] [] (K, P, E, N, S, M, C, O, L) na none g' → Q (.inr 500) (sh59, I', Lg, Rf, nc + 1, ns + 6) := fun g' I' a1 a2 => hQ3 g' I' a1 (ry_in (z := 7) (by decide) rfl rfl rfl a2)
  have qE : ∀ fb' K' P' N' S' C' L' I', gv (K', P', E, N', S', M, C', O, L') → RC fb' vb (K', P', E, N', S', M, C', O, L') I' → P'.length ≤ 10060 → xr k0 K N S C L K' N' S' C' L' → RMe X Rf mb_134 (kr + 13) 0 [some (.ref 36), some (.int (nI (rt t))), some (.int (nI 4)), none, none, none, none] [] (K, P, E, N, S, M, C, O, L) na none (K', P', E, N', S', M, C', O, L') na → Q (.inl none) (sh59, I', Lg, Rf, nc, ns) := fun fb' K' P' N' S' C' L' I' a1 a2 a3 a4 a5 => hQ1 fb' K' P' N' S' C' L' I' a1 a2 a3 a4 (rx_in (z := 7) (by decide) rfl rfl rfl a5)
  refine mj_enter (z := (5, [], mb_26)) (by decide) rfl rfl ?_
  refine mj_blk rfl ?_
  simp +decide only [mjs_0, mjs_1, mjs_2, mjs_3, mjs_ble, true_and, Bool.false_eq_true, if_false, if_true, Nat.reduceAdd, Nat.reduceSub, Nat.reduceLeDiff, false_implies, true_implies, not_false_eq_true, not_true_eq_false, and_true]
  refine mj_blk rfl ?_
  simp +decide only [mjs_0, mjs_1, mjs_2, mjs_3, mjs_ble, true_and, Bool.false_eq_true, if_false, if_true, Nat.reduceAdd, Nat.reduceSub, Nat.reduceLeDiff, false_implies, true_implies, not_false_eq_true, not_true_eq_false, and_true, mc_sh]
  refine hN fb K P E N S M C O L nc ns Lg I _ (d + 9) (by omega) hn hr' hv hw hp h (fun fb1 K1 P1 N1 S1 C1 L1 I1 x a1 a2 a3 a4 a5 a6 => ?_) (fun g1 I1 a1 a2 => ?_)
  · obtain ⟨g1, g2⟩ := gv_pnm (x := x) a1
    simp +decide only [mjs_0, mjs_1, mjs_2, mjs_3, mjs_ble, true_and, Bool.false_eq_true, if_false, if_true, Nat.reduceAdd, Nat.reduceSub, Nat.reduceLeDiff, false_implies, true_implies, not_false_eq_true, not_true_eq_false, and_true, mc_sh]
    refine cq_31 hR a2 a5 (by omega) (fun I2 c2 => ?_)
    simp +decide only [mjs_0, mjs_1, mjs_2, mjs_3, mjs_ble, true_and, Bool.false_eq_true, if_false, if_true, Nat.reduceAdd, Nat.reduceSub, Nat.reduceLeDiff, false_implies, true_implies, not_false_eq_true, not_true_eq_false, and_true]
    refine mj_blk rfl ?_
    simp +decide only [mjs_0, mjs_1, mjs_2, mjs_3, mjs_ble, true_and, Bool.false_eq_true, if_false, if_true, Nat.reduceAdd, Nat.reduceSub, Nat.reduceLeDiff, false_implies, true_implies, not_false_eq_true, not_true_eq_false, and_true]
    refine qE fb1 K1 (pnm x P1) N1 S1 C1 L1 I2 g1 c2 (by omega) (xr_of (by omega) a4) ?_
    intro H Lg d nc ns J Q hJ hA hq
    obtain ⟨D, hD, hDk⟩ : ∃ D, d + (kr + 13) = D + 13 ∧ kr ≤ D := ⟨d + kr, by omega, by omega⟩
    rw [hD]
    try rw [hD] at hq
    refine mj_blk rfl ?_
    simp +decide only [mjs_0, mjs_1, mjs_2, mjs_3, mjs_ble, true_and, Bool.false_eq_true, if_false, if_true, Nat.reduceAdd, Nat.reduceSub, Nat.reduceLeDiff, false_implies, true_implies, not_false_eq_true, not_true_eq_false, and_true, mm_sh, hm, mjs_up_at, mjs_up_c, mjs_up_f]
    refine mj_blk rfl ?_
    simp +decide only [mjs_0, mjs_1, mjs_2, mjs_3, mjs_ble, true_and, Bool.false_eq_true, if_false, if_true, Nat.reduceAdd, Nat.reduceSub, Nat.reduceLeDiff, false_implies, true_implies, not_false_eq_true, not_true_eq_false, and_true, mm_sh, hm, mjs_up_at, mjs_up_c, mjs_up_f]
    refine rx_at a6 (by omega) hJ trivial (fun H1 J1 c1 c2 _ => ?_)
    simp +decide only [mjs_0, mjs_1, mjs_2, mjs_3, mjs_ble, true_and, Bool.false_eq_true, if_false, if_true, Nat.reduceAdd, Nat.reduceSub, Nat.reduceLeDiff, false_implies, true_implies, not_false_eq_true, not_true_eq_false, and_true, mm_sh, hm, mjs_up_at, mjs_up_c, mjs_up_f]
    refine rq_138 hM' c2 a5 (by omega) (fun J2 c3 => ?_)
    simp +decide only [mjs_0, mjs_1, mjs_2, mjs_3, mjs_ble, true_and, Bool.false_eq_true, if_false, if_true, Nat.reduceAdd, Nat.reduceSub, Nat.reduceLeDiff, false_implies, true_implies, not_false_eq_true, not_true_eq_false, and_true, mm_sh, hm, mjs_up_at, mjs_up_c, mjs_up_f]
    refine mj_blk rfl ?_
    simp +decide only [mjs_0, mjs_1, mjs_2, mjs_3, mjs_ble, true_and, Bool.false_eq_true, if_false, if_true, Nat.reduceAdd, Nat.reduceSub, Nat.reduceLeDiff, false_implies, true_implies, not_false_eq_true, not_true_eq_false, and_true, mm_sh, hm, mjs_up_at, mjs_up_c, mjs_up_f]
    exact hq H1 J2 c1 c3 trivial
  · simp +decide only [mjs_0, mjs_1, mjs_2, mjs_3, mjs_ble, true_and, Bool.false_eq_true, if_false, if_true, Nat.reduceAdd, Nat.reduceSub, Nat.reduceLeDiff, false_implies, true_implies, not_false_eq_true, not_true_eq_false, and_true]
    refine qF g1 I1 a1 ?_
    intro H Lg d nc ns J Q hJ hA hq
    obtain ⟨D, hD, hDk⟩ : ∃ D, d + (kr + 13) = D + 13 ∧ kr ≤ D := ⟨d + kr, by omega, by omega⟩
    rw [hD]
    try rw [hD] at hq
    refine mj_blk rfl ?_
    simp +decide only [mjs_0, mjs_1, mjs_2, mjs_3, mjs_ble, true_and, Bool.false_eq_true, if_false, if_true, Nat.reduceAdd, Nat.reduceSub, Nat.reduceLeDiff, false_implies, true_implies, not_false_eq_true, not_true_eq_false, and_true, mm_sh, hm, mjs_up_at, mjs_up_c, mjs_up_f]
    refine mj_blk rfl ?_
    simp +decide only [mjs_0, mjs_1, mjs_2, mjs_3, mjs_ble, true_and, Bool.false_eq_true, if_false, if_true, Nat.reduceAdd, Nat.reduceSub, Nat.reduceLeDiff, false_implies, true_implies, not_false_eq_true, not_true_eq_false, and_true, mm_sh, hm, mjs_up_at, mjs_up_c, mjs_up_f]
    refine ry_at a2 (by omega) hJ trivial (fun J1 c1 => ?_)
    simp +decide only [mjs_0, mjs_1, mjs_2, mjs_3, mjs_ble, true_and, Bool.false_eq_true, if_false, if_true, Nat.reduceAdd, Nat.reduceSub, Nat.reduceLeDiff, false_implies, true_implies, not_false_eq_true, not_true_eq_false, and_true, mm_sh, hm, mjs_up_at, mjs_up_c, mjs_up_f]
    refine f_138 hM' c1 ?_
    simp +decide only [mjs_0, mjs_1, mjs_2, mjs_3, mjs_ble, true_and, Bool.false_eq_true, if_false, if_true, Nat.reduceAdd, Nat.reduceSub, Nat.reduceLeDiff, false_implies, true_implies, not_false_eq_true, not_true_eq_false, and_true, mm_sh, hm, mjs_up_at, mjs_up_c, mjs_up_f]
    refine mj_blk rfl ?_
    simp +decide only [mjs_0, mjs_1, mjs_2, mjs_3, mjs_ble, true_and, Bool.false_eq_true, if_false, if_true, Nat.reduceAdd, Nat.reduceSub, Nat.reduceLeDiff, false_implies, true_implies, not_false_eq_true, not_true_eq_false, and_true, mm_sh, hm, mjs_up_at, mjs_up_c, mjs_up_f]
    exact hq J1 c1
theorem x_roman (hR : mj_Rt mp_R Rf) (hM' : mj_Rt mm_R Rf) (hP : XP X Rf vb kc kr n) (hX : XD X Rf vb (kc + 1) (kr + 1) n) (hN : NU X Rf vb kc kr n) (hT : X.2.1[0]? = some mj_t1) {D : Nat} (hD : kc + 10 ≤ D) (hn : K.2.2 + n = 40) (hr' : nc + 1 ≤ X.2.2.1 ∧ ns + 6 ≤ X.2.2.2) (hv : gv (K, P, E, N, S, M, C, O, L)) (hw : gw K S) (hk0 : K.1 = k0 + 1) (hsv : S.2.2.2 ≤ k0) (h1 : 1 ≤ K.2.2) (hE1 : em_v (K.2.2 - 1) E) (hp : P.length ≤ 10000) (h : RC fb vb (K, P, E, N, S, M, C, O, L) I)
    (hQ1 : ∀ fb' K' P' N' S' C' L' I', gv (K', P', E, N', S', M, C', O, L') → RC fb' vb (K', P', E, N', S', M, C', O, L') I' → P'.length ≤ 10060 → xr k0 K N S C L K' N' S' C' L' → RX X Rf (kr + 14) 134 [.ref 36, .int (nI (rt t)), .int (nI 5)] (K, P, E, N, S, M, C, O, L) na none (K', P', E, N', S', M, C', O, L') na → Q (.inl none) (sh59, I', Lg, Rf, nc, ns))
    (hQ3 : ∀ g' I', RCf fb vb g' I' → RY X Rf (kr + 14) 134 [.ref 36, .int (nI (rt t)), .int (nI 5)] (K, P, E, N, S, M, C, O, L) na none g' → Q (.inr 500) (sh59, I', Lg, Rf, nc + 1, ns + 6)) :
    mj_call X mj_P (mj_bi X) D 26 [.ref 28, .int (nI 6), .int (nI t)] (sh59, I, Lg, Rf, nc, ns) Q := by
  have hr := mc_rf hR
  have hm := mm_rf hM'
  obtain ⟨d, rfl⟩ : ∃ d, D = d + 10 := ⟨D - 10, by omega⟩
  have qF : ∀ g' I', RCf fb vb g' I' → RMf X Rf mb_134 (kr + 13) 0 [some (.ref 36), some (.int (nI (rt t))), some (.int (nI 5)), none, none, none, none] [] (K, P, E, N, S, M, C, O, L) na none g' → Q (.inr 500) (sh59, I', Lg, Rf, nc + 1, ns + 6) := fun g' I' a1 a2 => hQ3 g' I' a1 (ry_in (z := 7) (by decide) rfl rfl rfl a2)
  have qE : ∀ fb' K' P' N' S' C' L' I', gv (K', P', E, N', S', M, C', O, L') → RC fb' vb (K', P', E, N', S', M, C', O, L') I' → P'.length ≤ 10060 → xr k0 K N S C L K' N' S' C' L' → RMe X Rf mb_134 (kr + 13) 0 [some (.ref 36), some (.int (nI (rt t))), some (.int (nI 5)), none, none, none, none] [] (K, P, E, N, S, M, C, O, L) na none (K', P', E, N', S', M, C', O, L') na → Q (.inl none) (sh59, I', Lg, Rf, nc, ns) := fun fb' K' P' N' S' C' L' I' a1 a2 a3 a4 a5 => hQ1 fb' K' P' N' S' C' L' I' a1 a2 a3 a4 (rx_in (z := 7) (by decide) rfl rfl rfl a5)
  refine mj_enter (z := (5, [], mb_26)) (by decide) rfl rfl ?_
  refine mj_blk rfl ?_
  simp +decide only [mjs_0, mjs_1, mjs_2, mjs_3, mjs_ble, true_and, Bool.false_eq_true, if_false, if_true, Nat.reduceAdd, Nat.reduceSub, Nat.reduceLeDiff, false_implies, true_implies, not_false_eq_true, not_true_eq_false, and_true]
  refine mj_blk rfl ?_
  simp +decide only [mjs_0, mjs_1, mjs_2, mjs_3, mjs_ble, true_and, Bool.false_eq_true, if_false, if_true, Nat.reduceAdd, Nat.reduceSub, Nat.reduceLeDiff, false_implies, true_implies, not_false_eq_true, not_true_eq_false, and_true, mc_sh]
  refine hN fb K P E N S M C O L nc ns Lg I _ (d + 9) (by omega) hn hr' hv hw hp h (fun fb1 K1 P1 N1 S1 C1 L1 I1 x a1 a2 a3 a4 a5 a6 => ?_) (fun g1 I1 a1 a2 => ?_)
  · simp +decide only [mjs_0, mjs_1, mjs_2, mjs_3, mjs_ble, true_and, Bool.false_eq_true, if_false, if_true, Nat.reduceAdd, Nat.reduceSub, Nat.reduceLeDiff, false_implies, true_implies, not_false_eq_true, not_true_eq_false, and_true, mc_sh]
    refine cq_32 hR hT a1 a2 (by omega) hr' (fun m hm9 hxm I2 c2 => ?_) (fun hgt I2 c2 => ?_)
    · obtain ⟨g1, g2⟩ := gv_grm (n := m) a1 hm9
      simp +decide only [mjs_0, mjs_1, mjs_2, mjs_3, mjs_ble, true_and, Bool.false_eq_true, if_false, if_true, Nat.reduceAdd, Nat.reduceSub, Nat.reduceLeDiff, false_implies, true_implies, not_false_eq_true, not_true_eq_false, and_true]
      refine mj_blk rfl ?_
      simp +decide only [mjs_0, mjs_1, mjs_2, mjs_3, mjs_ble, true_and, Bool.false_eq_true, if_false, if_true, Nat.reduceAdd, Nat.reduceSub, Nat.reduceLeDiff, false_implies, true_implies, not_false_eq_true, not_true_eq_false, and_true]
      refine qE fb1 K1 (grm m P1) N1 S1 C1 L1 I2 g1 c2 (by omega) (xr_of (by omega) a4) ?_
      intro H Lg d nc ns J Q hJ hA hq
      obtain ⟨D, hD, hDk⟩ : ∃ D, d + (kr + 13) = D + 13 ∧ kr ≤ D := ⟨d + kr, by omega, by omega⟩
      rw [hD]
      try rw [hD] at hq
      refine mj_blk rfl ?_
      simp +decide only [mjs_0, mjs_1, mjs_2, mjs_3, mjs_ble, true_and, Bool.false_eq_true, if_false, if_true, Nat.reduceAdd, Nat.reduceSub, Nat.reduceLeDiff, false_implies, true_implies, not_false_eq_true, not_true_eq_false, and_true, mm_sh, hm, mjs_up_at, mjs_up_c, mjs_up_f]
      refine mj_blk rfl ?_
      simp +decide only [mjs_0, mjs_1, mjs_2, mjs_3, mjs_ble, true_and, Bool.false_eq_true, if_false, if_true, Nat.reduceAdd, Nat.reduceSub, Nat.reduceLeDiff, false_implies, true_implies, not_false_eq_true, not_true_eq_false, and_true, mm_sh, hm, mjs_up_at, mjs_up_c, mjs_up_f]
      refine rx_at a6 (by omega) hJ trivial (fun H1 J1 c1 c2 _ => ?_)
      simp +decide only [mjs_0, mjs_1, mjs_2, mjs_3, mjs_ble, true_and, Bool.false_eq_true, if_false, if_true, Nat.reduceAdd, Nat.reduceSub, Nat.reduceLeDiff, false_implies, true_implies, not_false_eq_true, not_true_eq_false, and_true, mm_sh, hm, mjs_up_at, mjs_up_c, mjs_up_f]
      have hle : x ≤ 9999 := by
        rcases hxm with e | ⟨e, _⟩
        · rw [e]
          exact nI_le (a := m) (b := 9999) hm9 (by decide)
        · exact Int32.le_of_lt (Int32.lt_of_lt_of_le e (by decide))
      refine rq_140 hM' c2 (by omega) (fun m' hm' hxm' J2 c3 => ?_) (fun hgt => absurd hle hgt)
      have em : m' = m := by
        rcases hxm with e | ⟨e, e2⟩
        · rcases hxm' with e' | ⟨e', _⟩
          · exact ((nI_eq (by omega) (by omega)).mp (e'.symm.trans e))
          · rw [e] at e'
            exact absurd e' (nI_pos (by omega))
        · rcases hxm' with e' | ⟨_, e2'⟩
          · rw [e'] at e
            exact absurd e (nI_pos (by omega))
          · omega
      subst em
      simp +decide only [mjs_0, mjs_1, mjs_2, mjs_3, mjs_ble, true_and, Bool.false_eq_true, if_false, if_true, Nat.reduceAdd, Nat.reduceSub, Nat.reduceLeDiff, false_implies, true_implies, not_false_eq_true, not_true_eq_false, and_true, mm_sh, hm, mjs_up_at, mjs_up_c, mjs_up_f]
      refine mj_blk rfl ?_
      simp +decide only [mjs_0, mjs_1, mjs_2, mjs_3, mjs_ble, true_and, Bool.false_eq_true, if_false, if_true, Nat.reduceAdd, Nat.reduceSub, Nat.reduceLeDiff, false_implies, true_implies, not_false_eq_true, not_true_eq_false, and_true, mm_sh, hm, mjs_up_at, mjs_up_c, mjs_up_f]
      exact hq H1 J2 c1 c3 trivial
    · simp +decide only [mjs_0, mjs_1, mjs_2, mjs_3, mjs_ble, true_and, Bool.false_eq_true, if_false, if_true, Nat.reduceAdd, Nat.reduceSub, Nat.reduceLeDiff, false_implies, true_implies, not_false_eq_true, not_true_eq_false, and_true]
      refine qF _ I2 c2 ?_
      intro H Lg d nc ns J Q hJ hA hq
      obtain ⟨D, hD, hDk⟩ : ∃ D, d + (kr + 13) = D + 13 ∧ kr ≤ D := ⟨d + kr, by omega, by omega⟩
      rw [hD]
      try rw [hD] at hq
      refine mj_blk rfl ?_
      simp +decide only [mjs_0, mjs_1, mjs_2, mjs_3, mjs_ble, true_and, Bool.false_eq_true, if_false, if_true, Nat.reduceAdd, Nat.reduceSub, Nat.reduceLeDiff, false_implies, true_implies, not_false_eq_true, not_true_eq_false, and_true, mm_sh, hm, mjs_up_at, mjs_up_c, mjs_up_f]
      refine mj_blk rfl ?_
      simp +decide only [mjs_0, mjs_1, mjs_2, mjs_3, mjs_ble, true_and, Bool.false_eq_true, if_false, if_true, Nat.reduceAdd, Nat.reduceSub, Nat.reduceLeDiff, false_implies, true_implies, not_false_eq_true, not_true_eq_false, and_true, mm_sh, hm, mjs_up_at, mjs_up_c, mjs_up_f]
      refine rx_at a6 (by omega) hJ trivial (fun H1 J1 c1 c2 _ => ?_)
      simp +decide only [mjs_0, mjs_1, mjs_2, mjs_3, mjs_ble, true_and, Bool.false_eq_true, if_false, if_true, Nat.reduceAdd, Nat.reduceSub, Nat.reduceLeDiff, false_implies, true_implies, not_false_eq_true, not_true_eq_false, and_true, mm_sh, hm, mjs_up_at, mjs_up_c, mjs_up_f]
      refine rq_140 hM' c2 (by omega) (fun m' hm' hxm' => ?_) (fun _ J2 c3 => ?_)
      · exfalso
        rcases hxm' with e' | ⟨e', _⟩
        · exact hgt (by rw [e']; exact nI_le (a := m') (b := 9999) hm' (by decide))
        · exact hgt (Int32.le_of_lt (Int32.lt_of_lt_of_le e' (by decide)))
      · simp +decide only [mjs_0, mjs_1, mjs_2, mjs_3, mjs_ble, true_and, Bool.false_eq_true, if_false, if_true, Nat.reduceAdd, Nat.reduceSub, Nat.reduceLeDiff, false_implies, true_implies, not_false_eq_true, not_true_eq_false, and_true, mm_sh, hm, mjs_up_at, mjs_up_c, mjs_up_f]
        refine mj_blk rfl ?_
        simp +decide only [mjs_0, mjs_1, mjs_2, mjs_3, mjs_ble, true_and, Bool.false_eq_true, if_false, if_true, Nat.reduceAdd, Nat.reduceSub, Nat.reduceLeDiff, false_implies, true_implies, not_false_eq_true, not_true_eq_false, and_true, mm_sh, hm, mjs_up_at, mjs_up_c, mjs_up_f]
        exact hq J2 (rd_hx c3 c1)
  · simp +decide only [mjs_0, mjs_1, mjs_2, mjs_3, mjs_ble, true_and, Bool.false_eq_true, if_false, if_true, Nat.reduceAdd, Nat.reduceSub, Nat.reduceLeDiff, false_implies, true_implies, not_false_eq_true, not_true_eq_false, and_true]
    refine qF g1 I1 a1 ?_
    intro H Lg d nc ns J Q hJ hA hq
    obtain ⟨D, hD, hDk⟩ : ∃ D, d + (kr + 13) = D + 13 ∧ kr ≤ D := ⟨d + kr, by omega, by omega⟩
    rw [hD]
    try rw [hD] at hq
    refine mj_blk rfl ?_
    simp +decide only [mjs_0, mjs_1, mjs_2, mjs_3, mjs_ble, true_and, Bool.false_eq_true, if_false, if_true, Nat.reduceAdd, Nat.reduceSub, Nat.reduceLeDiff, false_implies, true_implies, not_false_eq_true, not_true_eq_false, and_true, mm_sh, hm, mjs_up_at, mjs_up_c, mjs_up_f]
    refine mj_blk rfl ?_
    simp +decide only [mjs_0, mjs_1, mjs_2, mjs_3, mjs_ble, true_and, Bool.false_eq_true, if_false, if_true, Nat.reduceAdd, Nat.reduceSub, Nat.reduceLeDiff, false_implies, true_implies, not_false_eq_true, not_true_eq_false, and_true, mm_sh, hm, mjs_up_at, mjs_up_c, mjs_up_f]
    refine ry_at a2 (by omega) hJ trivial (fun J1 c1 => ?_)
    simp +decide only [mjs_0, mjs_1, mjs_2, mjs_3, mjs_ble, true_and, Bool.false_eq_true, if_false, if_true, Nat.reduceAdd, Nat.reduceSub, Nat.reduceLeDiff, false_implies, true_implies, not_false_eq_true, not_true_eq_false, and_true, mm_sh, hm, mjs_up_at, mjs_up_c, mjs_up_f]
    refine mj_enter (z := (3, [], mb_140)) (by decide) rfl rfl ?_
    refine mj_blk rfl ?_
    simp +decide only [mjs_0, mjs_1, mjs_2, mjs_3, mjs_ble, true_and, Bool.false_eq_true, if_false, if_true, Nat.reduceAdd, Nat.reduceSub, Nat.reduceLeDiff, false_implies, true_implies, not_false_eq_true, not_true_eq_false, and_true, mm_sh, hm, mjs_up_at, mjs_up_c, mjs_up_f]
    refine ⟨fun _ => mj_blk rfl ?_, fun q => absurd (rd_gt c1) q⟩
    simp +decide only [mjs_0, mjs_1, mjs_2, mjs_3, mjs_ble, true_and, Bool.false_eq_true, if_false, if_true, Nat.reduceAdd, Nat.reduceSub, Nat.reduceLeDiff, false_implies, true_implies, not_false_eq_true, not_true_eq_false, and_true, mm_sh, hm, mjs_up_at, mjs_up_c, mjs_up_f]
    refine mj_blk rfl ?_
    simp +decide only [mjs_0, mjs_1, mjs_2, mjs_3, mjs_ble, true_and, Bool.false_eq_true, if_false, if_true, Nat.reduceAdd, Nat.reduceSub, Nat.reduceLeDiff, false_implies, true_implies, not_false_eq_true, not_true_eq_false, and_true, mm_sh, hm, mjs_up_at, mjs_up_c, mjs_up_f]
    exact hq J1 c1
theorem x_the (hR : mj_Rt mp_R Rf) (hM' : mj_Rt mm_R Rf) (hP : XP X Rf vb kc kr n) (hX : XD X Rf vb (kc + 1) (kr + 1) n) (hN : NU X Rf vb kc kr n) (hT : X.2.1[0]? = some mj_t1) {D : Nat} (hD : kc + 10 ≤ D) (hn : K.2.2 + n = 40) (hr' : nc + 1 ≤ X.2.2.1 ∧ ns + 6 ≤ X.2.2.2) (hv : gv (K, P, E, N, S, M, C, O, L)) (hw : gw K S) (hk0 : K.1 = k0 + 1) (hsv : S.2.2.2 ≤ k0) (h1 : 1 ≤ K.2.2) (hE1 : em_v (K.2.2 - 1) E) (hp : P.length ≤ 10000) (h : RC fb vb (K, P, E, N, S, M, C, O, L) I)
    (hQ1 : ∀ fb' K' P' N' S' C' L' I', gv (K', P', E, N', S', M, C', O, L') → RC fb' vb (K', P', E, N', S', M, C', O, L') I' → P'.length ≤ 10060 → xr k0 K N S C L K' N' S' C' L' → RX X Rf (kr + 14) 134 [.ref 36, .int (nI (rt t)), .int (nI 6)] (K, P, E, N, S, M, C, O, L) na none (K', P', E, N', S', M, C', O, L') na → Q (.inl none) (sh59, I', Lg, Rf, nc, ns))
    (hQ3 : ∀ g' I', RCf fb vb g' I' → RY X Rf (kr + 14) 134 [.ref 36, .int (nI (rt t)), .int (nI 6)] (K, P, E, N, S, M, C, O, L) na none g' → Q (.inr 500) (sh59, I', Lg, Rf, nc + 1, ns + 6)) :
    mj_call X mj_P (mj_bi X) D 26 [.ref 28, .int (nI 7), .int (nI t)] (sh59, I, Lg, Rf, nc, ns) Q := by
  have hr := mc_rf hR
  have hm := mm_rf hM'
  obtain ⟨d, rfl⟩ : ∃ d, D = d + 10 := ⟨D - 10, by omega⟩
  have qF : ∀ g' I', RCf fb vb g' I' → RMf X Rf mb_134 (kr + 13) 0 [some (.ref 36), some (.int (nI (rt t))), some (.int (nI 6)), none, none, none, none] [] (K, P, E, N, S, M, C, O, L) na none g' → Q (.inr 500) (sh59, I', Lg, Rf, nc + 1, ns + 6) := fun g' I' a1 a2 => hQ3 g' I' a1 (ry_in (z := 7) (by decide) rfl rfl rfl a2)
  have qE : ∀ fb' K' P' N' S' C' L' I', gv (K', P', E, N', S', M, C', O, L') → RC fb' vb (K', P', E, N', S', M, C', O, L') I' → P'.length ≤ 10060 → xr k0 K N S C L K' N' S' C' L' → RMe X Rf mb_134 (kr + 13) 0 [some (.ref 36), some (.int (nI (rt t))), some (.int (nI 6)), none, none, none, none] [] (K, P, E, N, S, M, C, O, L) na none (K', P', E, N', S', M, C', O, L') na → Q (.inl none) (sh59, I', Lg, Rf, nc, ns) := fun fb' K' P' N' S' C' L' I' a1 a2 a3 a4 a5 => hQ1 fb' K' P' N' S' C' L' I' a1 a2 a3 a4 (rx_in (z := 7) (by decide) rfl rfl rfl a5)
  have r265 : ∀ {H J : Nat → Nat → Int32} {Lg : Nat → Nat → Int64} {D nc ns : Nat} {Q : mj_Q} {g' : sg} {y : Int32}, RD H g' J → (∀ J', RD H g' J' → Q (.inl none) (sh59, J', Lg, Rf, nc, ns)) → mj_rn X (mj_hd []) (mj_call X mj_P (mj_bi X) (D + 13)) mb_134 231 [some (.ref 36), none, none, none, none, none, some (.int y)] [] (sh59, J, Lg, Rf, nc, ns) Q := by
    intro H J Lg D nc ns Q g' y c1 hq
    refine mj_blk rfl ?_
    simp +decide only [mjs_0, mjs_1, mjs_2, mjs_3, mjs_ble, true_and, Bool.false_eq_true, if_false, if_true, Nat.reduceAdd, Nat.reduceSub, Nat.reduceLeDiff, false_implies, true_implies, not_false_eq_true, not_true_eq_false, and_true, mm_sh, hm, mjs_up_at, mjs_up_c, mjs_up_f]
    refine ⟨fun _ => mj_blk rfl ?_, fun q => absurd (rd_ne c1) q⟩
    simp +decide only [mjs_0, mjs_1, mjs_2, mjs_3, mjs_ble, true_and, Bool.false_eq_true, if_false, if_true, Nat.reduceAdd, Nat.reduceSub, Nat.reduceLeDiff, false_implies, true_implies, not_false_eq_true, not_true_eq_false, and_true, mm_sh, hm, mjs_up_at, mjs_up_c, mjs_up_f]
    exact hq J c1
  refine mj_enter (z := (5, [], mb_26)) (by decide) rfl rfl ?_
  refine mj_blk rfl ?_
  simp +decide only [mjs_0, mjs_1, mjs_2, mjs_3, mjs_ble, true_and, Bool.false_eq_true, if_false, if_true, Nat.reduceAdd, Nat.reduceSub, Nat.reduceLeDiff, false_implies, true_implies, not_false_eq_true, not_true_eq_false, and_true]
  refine mj_blk rfl ?_
  simp +decide only [mjs_0, mjs_1, mjs_2, mjs_3, mjs_ble, true_and, Bool.false_eq_true, if_false, if_true, Nat.reduceAdd, Nat.reduceSub, Nat.reduceLeDiff, false_implies, true_implies, not_false_eq_true, not_true_eq_false, and_true, mc_sh]
  refine xd_n hX (by omega) hn hr' hv hw hp h (fun fb1 K1 P1 N1 S1 C1 L1 I1 t1 a1 a2 a3 a4 a5 a6 a7 a8 => ?_) (fun g1 I1 a1 a2 => ?_)
  · have hgw := gw_xs hw a4
    simp +decide only [mjs_0, mjs_1, mjs_2, mjs_3, mjs_ble, true_and, Bool.false_eq_true, if_false, if_true, Nat.reduceAdd, Nat.reduceSub, Nat.reduceLeDiff, false_implies, true_implies, not_false_eq_true, not_true_eq_false, and_true, mc_sh]
    refine p_43 hR hM' hN (by omega) (by rw [a4.2.1.2]; exact hn) hr' a1 hgw (by omega) a6 a2 (fun fb2 K2 P2 N2 S2 C2 L2 I2 x b1 b2 b3 b4 b5 b6 b7 => ?_) (fun hh I2 b1 => ?_) (fun hh g2 I2 b1 b2 => ?_)
    · obtain ⟨g1, g2⟩ := gv_pnm (x := x) b1
      simp +decide only [mjs_0, mjs_1, mjs_2, mjs_3, mjs_ble, true_and, Bool.false_eq_true, if_false, if_true, Nat.reduceAdd, Nat.reduceSub, Nat.reduceLeDiff, false_implies, true_implies, not_false_eq_true, not_true_eq_false, and_true, mc_sh]
      refine cq_31 hR b2 b5 (by omega) (fun I3 c3 => ?_)
      simp +decide only [mjs_0, mjs_1, mjs_2, mjs_3, mjs_ble, true_and, Bool.false_eq_true, if_false, if_true, Nat.reduceAdd, Nat.reduceSub, Nat.reduceLeDiff, false_implies, true_implies, not_false_eq_true, not_true_eq_false, and_true]
      refine mj_blk rfl ?_
      simp +decide only [mjs_0, mjs_1, mjs_2, mjs_3, mjs_ble, true_and, Bool.false_eq_true, if_false, if_true, Nat.reduceAdd, Nat.reduceSub, Nat.reduceLeDiff, false_implies, true_implies, not_false_eq_true, not_true_eq_false, and_true]
      refine qE fb2 K2 (pnm x P2) N2 S2 C2 L2 I3 g1 c3 (by omega) (xr_of (by omega) (xs_tr a4 b4)) ?_
      intro H Lg d nc ns J Q hJ hA hq
      obtain ⟨D, hD, hDk⟩ : ∃ D, d + (kr + 13) = D + 13 ∧ kr ≤ D := ⟨d + kr, by omega, by omega⟩
      rw [hD]
      try rw [hD] at hq
      refine mj_blk rfl ?_
      simp +decide only [mjs_0, mjs_1, mjs_2, mjs_3, mjs_ble, true_and, Bool.false_eq_true, if_false, if_true, Nat.reduceAdd, Nat.reduceSub, Nat.reduceLeDiff, false_implies, true_implies, not_false_eq_true, not_true_eq_false, and_true, mm_sh, hm, mjs_up_at, mjs_up_c, mjs_up_f]
      refine mj_blk rfl ?_
      simp +decide only [mjs_0, mjs_1, mjs_2, mjs_3, mjs_ble, true_and, Bool.false_eq_true, if_false, if_true, Nat.reduceAdd, Nat.reduceSub, Nat.reduceLeDiff, false_implies, true_implies, not_false_eq_true, not_true_eq_false, and_true, mm_sh, hm, mjs_up_at, mjs_up_c, mjs_up_f]
      refine rx_at a8 (by omega) hJ trivial (fun H1 J1 c1 c2 _ => ?_)
      simp +decide only [mjs_0, mjs_1, mjs_2, mjs_3, mjs_ble, true_and, Bool.false_eq_true, if_false, if_true, Nat.reduceAdd, Nat.reduceSub, Nat.reduceLeDiff, false_implies, true_implies, not_false_eq_true, not_true_eq_false, and_true, mm_sh, hm, mjs_up_at, mjs_up_c, mjs_up_f, (rr_d c2).1.2.2.2]
      refine mj_blk rfl ?_
      simp +decide only [mjs_0, mjs_1, mjs_2, mjs_3, mjs_ble, true_and, Bool.false_eq_true, if_false, if_true, Nat.reduceAdd, Nat.reduceSub, Nat.reduceLeDiff, false_implies, true_implies, not_false_eq_true, not_true_eq_false, and_true, mm_sh, hm, mjs_up_at, mjs_up_c, mjs_up_f]
      refine rq_154 hM' c2 a1 a6 (fun _ => ?_) (fun h2 => absurd b6 h2)
      simp +decide only [mjs_0, mjs_1, mjs_2, mjs_3, mjs_ble, true_and, Bool.false_eq_true, if_false, if_true, Nat.reduceAdd, Nat.reduceSub, Nat.reduceLeDiff, false_implies, true_implies, not_false_eq_true, not_true_eq_false, and_true, mm_sh, hm, mjs_up_at, mjs_up_c, mjs_up_f]
      refine mj_blk rfl ?_
      simp +decide only [mjs_0, mjs_1, mjs_2, mjs_3, mjs_ble, true_and, Bool.false_eq_true, if_false, if_true, Nat.reduceAdd, Nat.reduceSub, Nat.reduceLeDiff, false_implies, true_implies, not_false_eq_true, not_true_eq_false, and_true, mm_sh, hm, mjs_up_at, mjs_up_c, mjs_up_f, (rr_d c2).1.2.2.2]
      refine mj_blk rfl ?_
      simp +decide only [mjs_0, mjs_1, mjs_2, mjs_3, mjs_ble, true_and, Bool.false_eq_true, if_false, if_true, Nat.reduceAdd, Nat.reduceSub, Nat.reduceLeDiff, false_implies, true_implies, not_false_eq_true, not_true_eq_false, and_true, mm_sh, hm, mjs_up_at, mjs_up_c, mjs_up_f]
      refine rx_at b7 (by omega) c2 trivial (fun H2 J2 c4 c5 _ => ?_)
      simp +decide only [mjs_0, mjs_1, mjs_2, mjs_3, mjs_ble, true_and, Bool.false_eq_true, if_false, if_true, Nat.reduceAdd, Nat.reduceSub, Nat.reduceLeDiff, false_implies, true_implies, not_false_eq_true, not_true_eq_false, and_true, mm_sh, hm, mjs_up_at, mjs_up_c, mjs_up_f]
      refine rq_138 hM' c5 b5 (by omega) (fun J3 c6 => ?_)
      simp +decide only [mjs_0, mjs_1, mjs_2, mjs_3, mjs_ble, true_and, Bool.false_eq_true, if_false, if_true, Nat.reduceAdd, Nat.reduceSub, Nat.reduceLeDiff, false_implies, true_implies, not_false_eq_true, not_true_eq_false, and_true, mm_sh, hm, mjs_up_at, mjs_up_c, mjs_up_f]
      refine mj_blk rfl ?_
      simp +decide only [mjs_0, mjs_1, mjs_2, mjs_3, mjs_ble, true_and, Bool.false_eq_true, if_false, if_true, Nat.reduceAdd, Nat.reduceSub, Nat.reduceLeDiff, false_implies, true_implies, not_false_eq_true, not_true_eq_false, and_true, mm_sh, hm, mjs_up_at, mjs_up_c, mjs_up_f]
      exact hq H2 J3 (hx_tr c1 c4) c6 trivial
    · simp +decide only [mjs_0, mjs_1, mjs_2, mjs_3, mjs_ble, true_and, Bool.false_eq_true, if_false, if_true, Nat.reduceAdd, Nat.reduceSub, Nat.reduceLeDiff, false_implies, true_implies, not_false_eq_true, not_true_eq_false, and_true]
      refine qF _ I2 b1 ?_
      intro H Lg d nc ns J Q hJ hA hq
      obtain ⟨D, hD, hDk⟩ : ∃ D, d + (kr + 13) = D + 13 ∧ kr ≤ D := ⟨d + kr, by omega, by omega⟩
      rw [hD]
      try rw [hD] at hq
      refine mj_blk rfl ?_
      simp +decide only [mjs_0, mjs_1, mjs_2, mjs_3, mjs_ble, true_and, Bool.false_eq_true, if_false, if_true, Nat.reduceAdd, Nat.reduceSub, Nat.reduceLeDiff, false_implies, true_implies, not_false_eq_true, not_true_eq_false, and_true, mm_sh, hm, mjs_up_at, mjs_up_c, mjs_up_f]
      refine mj_blk rfl ?_
      simp +decide only [mjs_0, mjs_1, mjs_2, mjs_3, mjs_ble, true_and, Bool.false_eq_true, if_false, if_true, Nat.reduceAdd, Nat.reduceSub, Nat.reduceLeDiff, false_implies, true_implies, not_false_eq_true, not_true_eq_false, and_true, mm_sh, hm, mjs_up_at, mjs_up_c, mjs_up_f]
      refine rx_at a8 (by omega) hJ trivial (fun H1 J1 c1 c2 _ => ?_)
      simp +decide only [mjs_0, mjs_1, mjs_2, mjs_3, mjs_ble, true_and, Bool.false_eq_true, if_false, if_true, Nat.reduceAdd, Nat.reduceSub, Nat.reduceLeDiff, false_implies, true_implies, not_false_eq_true, not_true_eq_false, and_true, mm_sh, hm, mjs_up_at, mjs_up_c, mjs_up_f, (rr_d c2).1.2.2.2]
      refine mj_blk rfl ?_
      simp +decide only [mjs_0, mjs_1, mjs_2, mjs_3, mjs_ble, true_and, Bool.false_eq_true, if_false, if_true, Nat.reduceAdd, Nat.reduceSub, Nat.reduceLeDiff, false_implies, true_implies, not_false_eq_true, not_true_eq_false, and_true, mm_sh, hm, mjs_up_at, mjs_up_c, mjs_up_f]
      refine rq_154 hM' c2 a1 a6 (fun h2 => absurd h2 hh) (fun _ => ?_)
      simp +decide only [mjs_0, mjs_1, mjs_2, mjs_3, mjs_ble, true_and, Bool.false_eq_true, if_false, if_true, Nat.reduceAdd, Nat.reduceSub, Nat.reduceLeDiff, false_implies, true_implies, not_false_eq_true, not_true_eq_false, and_true, mm_sh, hm, mjs_up_at, mjs_up_c, mjs_up_f]
      refine mj_blk rfl ?_
      simp +decide only [mjs_0, mjs_1, mjs_2, mjs_3, mjs_ble, true_and, Bool.false_eq_true, if_false, if_true, Nat.reduceAdd, Nat.reduceSub, Nat.reduceLeDiff, false_implies, true_implies, not_false_eq_true, not_true_eq_false, and_true, mm_sh, hm, mjs_up_at, mjs_up_c, mjs_up_f]
      refine c_106 s59_36 ?_
      rw [if_pos (rr_d c2).1.2.2.2]
      simp +decide only [mjs_0, mjs_1, mjs_2, mjs_3, mjs_ble, true_and, Bool.false_eq_true, if_false, if_true, Nat.reduceAdd, Nat.reduceSub, Nat.reduceLeDiff, false_implies, true_implies, not_false_eq_true, not_true_eq_false, and_true, mm_sh, hm, mjs_up_at, mjs_up_c, mjs_up_f]
      exact mj_nv (r265 (y := nI (rt t1)) (rr_f (f := 6) (by decide) (by decide) c2) (fun J' hJ' => hq J' (rd_hx hJ' c1)))
    · simp +decide only [mjs_0, mjs_1, mjs_2, mjs_3, mjs_ble, true_and, Bool.false_eq_true, if_false, if_true, Nat.reduceAdd, Nat.reduceSub, Nat.reduceLeDiff, false_implies, true_implies, not_false_eq_true, not_true_eq_false, and_true]
      refine qF g2 I2 b1 ?_
      intro H Lg d nc ns J Q hJ hA hq
      obtain ⟨D, hD, hDk⟩ : ∃ D, d + (kr + 13) = D + 13 ∧ kr ≤ D := ⟨d + kr, by omega, by omega⟩
      rw [hD]
      try rw [hD] at hq
      refine mj_blk rfl ?_
      simp +decide only [mjs_0, mjs_1, mjs_2, mjs_3, mjs_ble, true_and, Bool.false_eq_true, if_false, if_true, Nat.reduceAdd, Nat.reduceSub, Nat.reduceLeDiff, false_implies, true_implies, not_false_eq_true, not_true_eq_false, and_true, mm_sh, hm, mjs_up_at, mjs_up_c, mjs_up_f]
      refine mj_blk rfl ?_
      simp +decide only [mjs_0, mjs_1, mjs_2, mjs_3, mjs_ble, true_and, Bool.false_eq_true, if_false, if_true, Nat.reduceAdd, Nat.reduceSub, Nat.reduceLeDiff, false_implies, true_implies, not_false_eq_true, not_true_eq_false, and_true, mm_sh, hm, mjs_up_at, mjs_up_c, mjs_up_f]
      refine rx_at a8 (by omega) hJ trivial (fun H1 J1 c1 c2 _ => ?_)
      simp +decide only [mjs_0, mjs_1, mjs_2, mjs_3, mjs_ble, true_and, Bool.false_eq_true, if_false, if_true, Nat.reduceAdd, Nat.reduceSub, Nat.reduceLeDiff, false_implies, true_implies, not_false_eq_true, not_true_eq_false, and_true, mm_sh, hm, mjs_up_at, mjs_up_c, mjs_up_f, (rr_d c2).1.2.2.2]
      refine mj_blk rfl ?_
      simp +decide only [mjs_0, mjs_1, mjs_2, mjs_3, mjs_ble, true_and, Bool.false_eq_true, if_false, if_true, Nat.reduceAdd, Nat.reduceSub, Nat.reduceLeDiff, false_implies, true_implies, not_false_eq_true, not_true_eq_false, and_true, mm_sh, hm, mjs_up_at, mjs_up_c, mjs_up_f]
      refine rq_154 hM' c2 a1 a6 (fun _ => ?_) (fun h2 => absurd hh h2)
      simp +decide only [mjs_0, mjs_1, mjs_2, mjs_3, mjs_ble, true_and, Bool.false_eq_true, if_false, if_true, Nat.reduceAdd, Nat.reduceSub, Nat.reduceLeDiff, false_implies, true_implies, not_false_eq_true, not_true_eq_false, and_true, mm_sh, hm, mjs_up_at, mjs_up_c, mjs_up_f]
      refine mj_blk rfl ?_
      simp +decide only [mjs_0, mjs_1, mjs_2, mjs_3, mjs_ble, true_and, Bool.false_eq_true, if_false, if_true, Nat.reduceAdd, Nat.reduceSub, Nat.reduceLeDiff, false_implies, true_implies, not_false_eq_true, not_true_eq_false, and_true, mm_sh, hm, mjs_up_at, mjs_up_c, mjs_up_f, (rr_d c2).1.2.2.2]
      refine mj_blk rfl ?_
      simp +decide only [mjs_0, mjs_1, mjs_2, mjs_3, mjs_ble, true_and, Bool.false_eq_true, if_false, if_true, Nat.reduceAdd, Nat.reduceSub, Nat.reduceLeDiff, false_implies, true_implies, not_false_eq_true, not_true_eq_false, and_true, mm_sh, hm, mjs_up_at, mjs_up_c, mjs_up_f]
      refine ryi_at b2 (by omega) c2 trivial (fun J2 y c4 => ?_)
      simp +decide only [mjs_0, mjs_1, mjs_2, mjs_3, mjs_ble, true_and, Bool.false_eq_true, if_false, if_true, Nat.reduceAdd, Nat.reduceSub, Nat.reduceLeDiff, false_implies, true_implies, not_false_eq_true, not_true_eq_false, and_true, mm_sh, hm, mjs_up_at, mjs_up_c, mjs_up_f]
      refine f_138 hM' c4 ?_
      simp +decide only [mjs_0, mjs_1, mjs_2, mjs_3, mjs_ble, true_and, Bool.false_eq_true, if_false, if_true, Nat.reduceAdd, Nat.reduceSub, Nat.reduceLeDiff, false_implies, true_implies, not_false_eq_true, not_true_eq_false, and_true, mm_sh, hm, mjs_up_at, mjs_up_c, mjs_up_f]
      refine mj_blk rfl ?_
      simp +decide only [mjs_0, mjs_1, mjs_2, mjs_3, mjs_ble, true_and, Bool.false_eq_true, if_false, if_true, Nat.reduceAdd, Nat.reduceSub, Nat.reduceLeDiff, false_implies, true_implies, not_false_eq_true, not_true_eq_false, and_true, mm_sh, hm, mjs_up_at, mjs_up_c, mjs_up_f]
      exact hq J2 (rd_hx c4 c1)
  · simp +decide only [mjs_0, mjs_1, mjs_2, mjs_3, mjs_ble, true_and, Bool.false_eq_true, if_false, if_true, Nat.reduceAdd, Nat.reduceSub, Nat.reduceLeDiff, false_implies, true_implies, not_false_eq_true, not_true_eq_false, and_true]
    refine qF g1 I1 a1 ?_
    intro H Lg d nc ns J Q hJ hA hq
    obtain ⟨D, hD, hDk⟩ : ∃ D, d + (kr + 13) = D + 13 ∧ kr ≤ D := ⟨d + kr, by omega, by omega⟩
    rw [hD]
    try rw [hD] at hq
    refine mj_blk rfl ?_
    simp +decide only [mjs_0, mjs_1, mjs_2, mjs_3, mjs_ble, true_and, Bool.false_eq_true, if_false, if_true, Nat.reduceAdd, Nat.reduceSub, Nat.reduceLeDiff, false_implies, true_implies, not_false_eq_true, not_true_eq_false, and_true, mm_sh, hm, mjs_up_at, mjs_up_c, mjs_up_f]
    refine mj_blk rfl ?_
    simp +decide only [mjs_0, mjs_1, mjs_2, mjs_3, mjs_ble, true_and, Bool.false_eq_true, if_false, if_true, Nat.reduceAdd, Nat.reduceSub, Nat.reduceLeDiff, false_implies, true_implies, not_false_eq_true, not_true_eq_false, and_true, mm_sh, hm, mjs_up_at, mjs_up_c, mjs_up_f]
    refine ry_at a2 (by omega) hJ trivial (fun J1 c1 => ?_)
    simp +decide only [mjs_0, mjs_1, mjs_2, mjs_3, mjs_ble, true_and, Bool.false_eq_true, if_false, if_true, Nat.reduceAdd, Nat.reduceSub, Nat.reduceLeDiff, false_implies, true_implies, not_false_eq_true, not_true_eq_false, and_true, mm_sh, hm, mjs_up_at, mjs_up_c, mjs_up_f]
    exact ⟨fun _ => mj_nv (r265 c1 hq), fun q => absurd (rd_ne c1) q⟩
theorem x_noexpand (hR : mj_Rt mp_R Rf) (hM' : mj_Rt mm_R Rf) (hP : XP X Rf vb kc kr n) (hX : XD X Rf vb (kc + 1) (kr + 1) n) (hN : NU X Rf vb kc kr n) (hT : X.2.1[0]? = some mj_t1) {D : Nat} (hD : kc + 10 ≤ D) (hn : K.2.2 + n = 40) (hr' : nc + 1 ≤ X.2.2.1 ∧ ns + 6 ≤ X.2.2.2) (hv : gv (K, P, E, N, S, M, C, O, L)) (hw : gw K S) (hk0 : K.1 = k0 + 1) (hsv : S.2.2.2 ≤ k0) (h1 : 1 ≤ K.2.2) (hE1 : em_v (K.2.2 - 1) E) (hp : P.length ≤ 10000) (h : RC fb vb (K, P, E, N, S, M, C, O, L) I)
    (hQ1 : ∀ fb' K' P' N' S' C' L' I', gv (K', P', E, N', S', M, C', O, L') → RC fb' vb (K', P', E, N', S', M, C', O, L') I' → P'.length ≤ 10060 → xr k0 K N S C L K' N' S' C' L' → RX X Rf (kr + 14) 134 [.ref 36, .int (nI (rt t)), .int (nI 1)] (K, P, E, N, S, M, C, O, L) na none (K', P', E, N', S', M, C', O, L') na → Q (.inl none) (sh59, I', Lg, Rf, nc, ns))
    (hQ3 : ∀ g' I', RCf fb vb g' I' → RY X Rf (kr + 14) 134 [.ref 36, .int (nI (rt t)), .int (nI 1)] (K, P, E, N, S, M, C, O, L) na none g' → Q (.inr 500) (sh59, I', Lg, Rf, nc + 1, ns + 6)) :
    mj_call X mj_P (mj_bi X) D 26 [.ref 28, .int (nI 2), .int (nI t)] (sh59, I, Lg, Rf, nc, ns) Q := by
  have hr := mc_rf hR
  have hm := mm_rf hM'
  obtain ⟨d, rfl⟩ : ∃ d, D = d + 10 := ⟨D - 10, by omega⟩
  have qF : ∀ g' I', RCf fb vb g' I' → RMf X Rf mb_134 (kr + 13) 0 [some (.ref 36), some (.int (nI (rt t))), some (.int (nI 1)), none, none, none, none] [] (K, P, E, N, S, M, C, O, L) na none g' → Q (.inr 500) (sh59, I', Lg, Rf, nc + 1, ns + 6) := fun g' I' a1 a2 => hQ3 g' I' a1 (ry_in (z := 7) (by decide) rfl rfl rfl a2)
  have qE : ∀ fb' K' P' N' S' C' L' I', gv (K', P', E, N', S', M, C', O, L') → RC fb' vb (K', P', E, N', S', M, C', O, L') I' → P'.length ≤ 10060 → xr k0 K N S C L K' N' S' C' L' → RMe X Rf mb_134 (kr + 13) 0 [some (.ref 36), some (.int (nI (rt t))), some (.int (nI 1)), none, none, none, none] [] (K, P, E, N, S, M, C, O, L) na none (K', P', E, N', S', M, C', O, L') na → Q (.inl none) (sh59, I', Lg, Rf, nc, ns) := fun fb' K' P' N' S' C' L' I' a1 a2 a3 a4 a5 => hQ1 fb' K' P' N' S' C' L' I' a1 a2 a3 a4 (rx_in (z := 7) (by decide) rfl rfl rfl a5)
  refine mj_enter (z := (5, [], mb_26)) (by decide) rfl rfl ?_
  refine mj_blk rfl ?_
  simp +decide only [mjs_0, mjs_1, mjs_2, mjs_3, mjs_ble, true_and, Bool.false_eq_true, if_false, if_true, Nat.reduceAdd, Nat.reduceSub, Nat.reduceLeDiff, false_implies, true_implies, not_false_eq_true, not_true_eq_false, and_true]
  refine mj_blk rfl ?_
  simp +decide only [mjs_0, mjs_1, mjs_2, mjs_3, mjs_ble, true_and, Bool.false_eq_true, if_false, if_true, Nat.reduceAdd, Nat.reduceSub, Nat.reduceLeDiff, false_implies, true_implies, not_false_eq_true, not_true_eq_false, and_true, mc_sh, hr, mjs_up_at, mjs_up_c, mjs_up_f]
  refine p_85n hR hM' hv h hp hr' (fun t1 P1 N1 L1 I1 a1 a2 a3 a4 a5 a6 a7 a8 => ?_) (fun g1 I1 a1 a2 => ?_)
  · have hk : N1.2.2 ≤ 1036 := (gv_d a1).2.2.1.2.1
    have hk1 : 36 ≤ N1.2.2 := (gv_d a1).2.2.1.1
    have hxg : xs K P N S C L K P1 N1 S C L1 := xs_get a3 (by omega) a6
    have fin : ∀ (t2 : Nat) (I2 : Nat → Nat → Int32), tv N1.2.2 t2 → RC fb vb (K, t2 :: P1, E, N1, S, M, C, O, L1) I2 → RM X Rf mb_134 (kr + 13) 0 [some (.ref 36), some (.int (nI (rt t))), some (.int (nI 1)), none, none, none, none] [] (K, P, E, N, S, M, C, O, L) na 157 [none, none, none, none, none, none, none] [.int (nI (rt t2)), .ref 36] (K, P1, E, N1, S, M, C, O, L1) na → Q (.inl none) (sh59, I2, Lg, Rf, nc, ns) := by
      intro t2 I2 ht2 c2 hM
      refine qE fb K (t2 :: P1) N1 S C L1 I2 (gv_P1 a1 ht2) c2 (by rw [List.length_cons]; omega) (xr_of (by omega) hxg) (rm_e hM ?_)
      intro H Lg d nc ns J Q hJ hA hq
      obtain ⟨D, hD, hDk⟩ : ∃ D, d + (kr + 13) = D + 13 ∧ kr ≤ D := ⟨d + kr, by omega, by omega⟩
      rw [hD]
      try rw [hD] at hq
      refine mj_blk rfl ?_
      simp +decide only [mjs_0, mjs_1, mjs_2, mjs_3, mjs_ble, true_and, Bool.false_eq_true, if_false, if_true, Nat.reduceAdd, Nat.reduceSub, Nat.reduceLeDiff, false_implies, true_implies, not_false_eq_true, not_true_eq_false, and_true, mm_sh, hm, mjs_up_at, mjs_up_c, mjs_up_f]
      refine rq_118 hM' hJ (by have := rt_lt hk hk1 ht2; omega) (by omega) (fun J2 c3 => ?_)
      simp +decide only [mjs_0, mjs_1, mjs_2, mjs_3, mjs_ble, true_and, Bool.false_eq_true, if_false, if_true, Nat.reduceAdd, Nat.reduceSub, Nat.reduceLeDiff, false_implies, true_implies, not_false_eq_true, not_true_eq_false, and_true, mm_sh, hm, mjs_up_at, mjs_up_c, mjs_up_f]
      refine mj_blk rfl ?_
      simp +decide only [mjs_0, mjs_1, mjs_2, mjs_3, mjs_ble, true_and, Bool.false_eq_true, if_false, if_true, Nat.reduceAdd, Nat.reduceSub, Nat.reduceLeDiff, false_implies, true_implies, not_false_eq_true, not_true_eq_false, and_true, mm_sh, hm, mjs_up_at, mjs_up_c, mjs_up_f]
      exact hq H J2 hx_rf c3 trivial
    simp +decide only [mjs_0, mjs_1, mjs_2, mjs_3, mjs_ble, true_and, Bool.false_eq_true, if_false, if_true, Nat.reduceAdd, Nat.reduceSub, Nat.reduceLeDiff, false_implies, true_implies, not_false_eq_true, not_true_eq_false, and_true, mc_sh, hr, mjs_up_at, mjs_up_c, mjs_up_f]
    refine cq_24 hR a2 a1 a7 (fun e => ?_) (fun e => ?_)
    · obtain ⟨m1, m2, m3⟩ := tv_mk hk a7 e
      have em : nI t1 ||| 1048576 = nI (t1 + 1048576) := bt_mark (by omega)
      simp +decide only [mjs_0, mjs_1, mjs_2, mjs_3, mjs_ble, true_and, Bool.false_eq_true, if_false, if_true, Nat.reduceAdd, Nat.reduceSub, Nat.reduceLeDiff, false_implies, true_implies, not_false_eq_true, not_true_eq_false, and_true]
      refine mj_blk rfl ?_
      simp +decide only [mjs_0, mjs_1, mjs_2, mjs_3, mjs_ble, true_and, Bool.false_eq_true, if_false, if_true, Nat.reduceAdd, Nat.reduceSub, Nat.reduceLeDiff, false_implies, true_implies, not_false_eq_true, not_true_eq_false, and_true, em]
      refine mj_blk rfl ?_
      simp +decide only [mjs_0, mjs_1, mjs_2, mjs_3, mjs_ble, true_and, Bool.false_eq_true, if_false, if_true, Nat.reduceAdd, Nat.reduceSub, Nat.reduceLeDiff, false_implies, true_implies, not_false_eq_true, not_true_eq_false, and_true, mc_sh]
      refine cq_84 hR a2 (by omega) (fun I2 c2 _ => ?_)
      simp +decide only [mjs_0, mjs_1, mjs_2, mjs_3, mjs_ble, true_and, Bool.false_eq_true, if_false, if_true, Nat.reduceAdd, Nat.reduceSub, Nat.reduceLeDiff, false_implies, true_implies, not_false_eq_true, not_true_eq_false, and_true]
      refine mj_blk rfl ?_
      simp +decide only [mjs_0, mjs_1, mjs_2, mjs_3, mjs_ble, true_and, Bool.false_eq_true, if_false, if_true, Nat.reduceAdd, Nat.reduceSub, Nat.reduceLeDiff, false_implies, true_implies, not_false_eq_true, not_true_eq_false, and_true]
      refine fin _ I2 m1 c2 ?_
      rw [m2]
      intro H Lg d nc ns J Q hJ hA hq
      obtain ⟨D, hD, hDk⟩ : ∃ D, d + (kr + 13) = D + 13 ∧ kr ≤ D := ⟨d + kr, by omega, by omega⟩
      rw [hD]
      try rw [hD] at hq
      refine mj_blk rfl ?_
      simp +decide only [mjs_0, mjs_1, mjs_2, mjs_3, mjs_ble, true_and, Bool.false_eq_true, if_false, if_true, Nat.reduceAdd, Nat.reduceSub, Nat.reduceLeDiff, false_implies, true_implies, not_false_eq_true, not_true_eq_false, and_true, mm_sh, hm, mjs_up_at, mjs_up_c, mjs_up_f]
      refine mj_blk rfl ?_
      simp +decide only [mjs_0, mjs_1, mjs_2, mjs_3, mjs_ble, true_and, Bool.false_eq_true, if_false, if_true, Nat.reduceAdd, Nat.reduceSub, Nat.reduceLeDiff, false_implies, true_implies, not_false_eq_true, not_true_eq_false, and_true, mm_sh, hm, mjs_up_at, mjs_up_c, mjs_up_f]
      refine a8 H Lg (D + 7) nc ns J _ hJ (fun J1 c1 => ?_)
      simp +decide only [mjs_0, mjs_1, mjs_2, mjs_3, mjs_ble, true_and, Bool.false_eq_true, if_false, if_true, Nat.reduceAdd, Nat.reduceSub, Nat.reduceLeDiff, false_implies, true_implies, not_false_eq_true, not_true_eq_false, and_true, mm_sh, hm, mjs_up_at, mjs_up_c, mjs_up_f]
      refine rq_127 hM' c1 a1 a7 (fun _ => ?_) (fun e' => absurd e e')
      have ea : nI (rt t1) + 524288 = nI (rt t1 + 524288) := nI_add (rt t1) 524288
      simp +decide only [mjs_0, mjs_1, mjs_2, mjs_3, mjs_ble, true_and, Bool.false_eq_true, if_false, if_true, Nat.reduceAdd, Nat.reduceSub, Nat.reduceLeDiff, false_implies, true_implies, not_false_eq_true, not_true_eq_false, and_true, mm_sh, hm, mjs_up_at, mjs_up_c, mjs_up_f]
      refine mj_blk rfl ?_
      simp +decide only [mjs_0, mjs_1, mjs_2, mjs_3, mjs_ble, true_and, Bool.false_eq_true, if_false, if_true, Nat.reduceAdd, Nat.reduceSub, Nat.reduceLeDiff, false_implies, true_implies, not_false_eq_true, not_true_eq_false, and_true, mm_sh, hm, mjs_up_at, mjs_up_c, mjs_up_f, ea]
      exact mj_nv (hq H J1 hx_rf c1 trivial)
    · simp +decide only [mjs_0, mjs_1, mjs_2, mjs_3, mjs_ble, true_and, Bool.false_eq_true, if_false, if_true, Nat.reduceAdd, Nat.reduceSub, Nat.reduceLeDiff, false_implies, true_implies, not_false_eq_true, not_true_eq_false, and_true]
      refine mj_blk rfl ?_
      simp +decide only [mjs_0, mjs_1, mjs_2, mjs_3, mjs_ble, true_and, Bool.false_eq_true, if_false, if_true, Nat.reduceAdd, Nat.reduceSub, Nat.reduceLeDiff, false_implies, true_implies, not_false_eq_true, not_true_eq_false, and_true]
      refine mj_blk rfl ?_
      simp +decide only [mjs_0, mjs_1, mjs_2, mjs_3, mjs_ble, true_and, Bool.false_eq_true, if_false, if_true, Nat.reduceAdd, Nat.reduceSub, Nat.reduceLeDiff, false_implies, true_implies, not_false_eq_true, not_true_eq_false, and_true, mc_sh]
      refine cq_84 hR a2 (by omega) (fun I2 c2 _ => ?_)
      simp +decide only [mjs_0, mjs_1, mjs_2, mjs_3, mjs_ble, true_and, Bool.false_eq_true, if_false, if_true, Nat.reduceAdd, Nat.reduceSub, Nat.reduceLeDiff, false_implies, true_implies, not_false_eq_true, not_true_eq_false, and_true]
      refine mj_blk rfl ?_
      simp +decide only [mjs_0, mjs_1, mjs_2, mjs_3, mjs_ble, true_and, Bool.false_eq_true, if_false, if_true, Nat.reduceAdd, Nat.reduceSub, Nat.reduceLeDiff, false_implies, true_implies, not_false_eq_true, not_true_eq_false, and_true]
      refine fin _ I2 a7 c2 ?_
      intro H Lg d nc ns J Q hJ hA hq
      obtain ⟨D, hD, hDk⟩ : ∃ D, d + (kr + 13) = D + 13 ∧ kr ≤ D := ⟨d + kr, by omega, by omega⟩
      rw [hD]
      try rw [hD] at hq
      refine mj_blk rfl ?_
      simp +decide only [mjs_0, mjs_1, mjs_2, mjs_3, mjs_ble, true_and, Bool.false_eq_true, if_false, if_true, Nat.reduceAdd, Nat.reduceSub, Nat.reduceLeDiff, false_implies, true_implies, not_false_eq_true, not_true_eq_false, and_true, mm_sh, hm, mjs_up_at, mjs_up_c, mjs_up_f]
      refine mj_blk rfl ?_
      simp +decide only [mjs_0, mjs_1, mjs_2, mjs_3, mjs_ble, true_and, Bool.false_eq_true, if_false, if_true, Nat.reduceAdd, Nat.reduceSub, Nat.reduceLeDiff, false_implies, true_implies, not_false_eq_true, not_true_eq_false, and_true, mm_sh, hm, mjs_up_at, mjs_up_c, mjs_up_f]
      refine a8 H Lg (D + 7) nc ns J _ hJ (fun J1 c1 => ?_)
      simp +decide only [mjs_0, mjs_1, mjs_2, mjs_3, mjs_ble, true_and, Bool.false_eq_true, if_false, if_true, Nat.reduceAdd, Nat.reduceSub, Nat.reduceLeDiff, false_implies, true_implies, not_false_eq_true, not_true_eq_false, and_true, mm_sh, hm, mjs_up_at, mjs_up_c, mjs_up_f]
      refine rq_127 hM' c1 a1 a7 (fun e' => absurd e' e) (fun _ => ?_)
      simp +decide only [mjs_0, mjs_1, mjs_2, mjs_3, mjs_ble, true_and, Bool.false_eq_true, if_false, if_true, Nat.reduceAdd, Nat.reduceSub, Nat.reduceLeDiff, false_implies, true_implies, not_false_eq_true, not_true_eq_false, and_true, mm_sh, hm, mjs_up_at, mjs_up_c, mjs_up_f]
      refine mj_blk rfl ?_
      simp +decide only [mjs_0, mjs_1, mjs_2, mjs_3, mjs_ble, true_and, Bool.false_eq_true, if_false, if_true, Nat.reduceAdd, Nat.reduceSub, Nat.reduceLeDiff, false_implies, true_implies, not_false_eq_true, not_true_eq_false, and_true, mm_sh, hm, mjs_up_at, mjs_up_c, mjs_up_f]
      exact mj_nv (hq H J1 hx_rf c1 trivial)
  · simp +decide only [mjs_0, mjs_1, mjs_2, mjs_3, mjs_ble, true_and, Bool.false_eq_true, if_false, if_true, Nat.reduceAdd, Nat.reduceSub, Nat.reduceLeDiff, false_implies, true_implies, not_false_eq_true, not_true_eq_false, and_true]
    refine qF g1 I1 a1 ?_
    intro H Lg d nc ns J Q hJ hA hq
    obtain ⟨D, hD, hDk⟩ : ∃ D, d + (kr + 13) = D + 13 ∧ kr ≤ D := ⟨d + kr, by omega, by omega⟩
    rw [hD]
    try rw [hD] at hq
    refine mj_blk rfl ?_
    simp +decide only [mjs_0, mjs_1, mjs_2, mjs_3, mjs_ble, true_and, Bool.false_eq_true, if_false, if_true, Nat.reduceAdd, Nat.reduceSub, Nat.reduceLeDiff, false_implies, true_implies, not_false_eq_true, not_true_eq_false, and_true, mm_sh, hm, mjs_up_at, mjs_up_c, mjs_up_f]
    refine mj_blk rfl ?_
    simp +decide only [mjs_0, mjs_1, mjs_2, mjs_3, mjs_ble, true_and, Bool.false_eq_true, if_false, if_true, Nat.reduceAdd, Nat.reduceSub, Nat.reduceLeDiff, false_implies, true_implies, not_false_eq_true, not_true_eq_false, and_true, mm_sh, hm, mjs_up_at, mjs_up_c, mjs_up_f]
    refine a2 H Lg (D + 7) nc ns J _ hJ (fun J1 c1 => ?_)
    simp +decide only [mjs_0, mjs_1, mjs_2, mjs_3, mjs_ble, true_and, Bool.false_eq_true, if_false, if_true, Nat.reduceAdd, Nat.reduceSub, Nat.reduceLeDiff, false_implies, true_implies, not_false_eq_true, not_true_eq_false, and_true, mm_sh, hm, mjs_up_at, mjs_up_c, mjs_up_f]
    refine r_127e ?_
    simp +decide only [mjs_0, mjs_1, mjs_2, mjs_3, mjs_ble, true_and, Bool.false_eq_true, if_false, if_true, Nat.reduceAdd, Nat.reduceSub, Nat.reduceLeDiff, false_implies, true_implies, not_false_eq_true, not_true_eq_false, and_true, mm_sh, hm, mjs_up_at, mjs_up_c, mjs_up_f]
    refine mj_blk rfl ?_
    simp +decide only [mjs_0, mjs_1, mjs_2, mjs_3, mjs_ble, true_and, Bool.false_eq_true, if_false, if_true, Nat.reduceAdd, Nat.reduceSub, Nat.reduceLeDiff, false_implies, true_implies, not_false_eq_true, not_true_eq_false, and_true, mm_sh, hm, mjs_up_at, mjs_up_c, mjs_up_f]
    refine mj_blk rfl ?_
    simp +decide only [mjs_0, mjs_1, mjs_2, mjs_3, mjs_ble, true_and, Bool.false_eq_true, if_false, if_true, Nat.reduceAdd, Nat.reduceSub, Nat.reduceLeDiff, false_implies, true_implies, not_false_eq_true, not_true_eq_false, and_true, mm_sh, hm, mjs_up_at, mjs_up_c, mjs_up_f]
    refine r_118e ?_
    simp +decide only [mjs_0, mjs_1, mjs_2, mjs_3, mjs_ble, true_and, Bool.false_eq_true, if_false, if_true, Nat.reduceAdd, Nat.reduceSub, Nat.reduceLeDiff, false_implies, true_implies, not_false_eq_true, not_true_eq_false, and_true, mm_sh, hm, mjs_up_at, mjs_up_c, mjs_up_f]
    refine mj_blk rfl ?_
    simp +decide only [mjs_0, mjs_1, mjs_2, mjs_3, mjs_ble, true_and, Bool.false_eq_true, if_false, if_true, Nat.reduceAdd, Nat.reduceSub, Nat.reduceLeDiff, false_implies, true_implies, not_false_eq_true, not_true_eq_false, and_true, mm_sh, hm, mjs_up_at, mjs_up_c, mjs_up_f]
    exact hq J1 c1
/-- expandAfter -/
theorem p_27 (hR : mj_Rt mp_R Rf) (hM' : mj_Rt mm_R Rf) (hP : XP X Rf vb kc kr n) {D : Nat} (hD : kc + 4 ≤ D) (hn : K.2.2 + n = 40) (hr' : nc + 1 ≤ X.2.2.1 ∧ ns + 6 ≤ X.2.2.2) (hv : gv (K, P, E, N, S, M, C, O, L)) (hw : gw K S) (hk0 : K.1 = k0 + 1) (hp : P.length ≤ 10000) (h : RC fb vb (K, P, E, N, S, M, C, O, L) I)
    (hQ1 : ∀ fb' K' P' N' S' C' L' I', gv (K', P', E, N', S', M, C', O, L') → RC fb' vb (K', P', E, N', S', M, C', O, L') I' → P'.length ≤ 10060 → xr k0 K N S C L K' N' S' C' L' → RMe X Rf mb_134 (kr + 13) 0 [some (.ref 36), some (.int (nI (rt t))), some (.int (nI 0)), none, none, none, none] [] (K, P, E, N, S, M, C, O, L) na none (K', P', E, N', S', M, C', O, L') na → Q (.inl none) (sh59, I', Lg, Rf, nc, ns))
    (hQ3 : ∀ g' I', RCf fb vb g' I' → RMf X Rf mb_134 (kr + 13) 0 [some (.ref 36), some (.int (nI (rt t))), some (.int (nI 0)), none, none, none, none] [] (K, P, E, N, S, M, C, O, L) na none g' → Q (.inr 500) (sh59, I', Lg, Rf, nc + 1, ns + 6)) :
    mj_call X mj_P (mj_bi X) D 27 [.ref 28] (sh59, I, Lg, Rf, nc, ns) Q := by
  have hr := mc_rf hR
  have hm := mm_rf hM'
  obtain ⟨d, rfl⟩ : ∃ d, D = d + 4 := ⟨D - 4, by omega⟩
  have fEnd : ∀ {H J : Nat → Nat → Int32} {Lg : Nat → Nat → Int64} {D nc ns : Nat} {Q : mj_Q} {g' : sg} {y : Int32}, RD H g' J → (∀ J', RD H g' J' → Q (.inl none) (sh59, J', Lg, Rf, nc, ns)) → mj_rn X (mj_hd []) (mj_call X mj_P (mj_bi X) (D + 13)) mb_134 123 [some (.ref 36), none, none, some (.int y), none, none, none] [] (sh59, J, Lg, Rf, nc, ns) Q := by
    intro H J Lg D nc ns Q g' y c1 hq
    refine mj_blk rfl ?_
    simp +decide only [mjs_0, mjs_1, mjs_2, mjs_3, mjs_ble, true_and, Bool.false_eq_true, if_false, if_true, Nat.reduceAdd, Nat.reduceSub, Nat.reduceLeDiff, false_implies, true_implies, not_false_eq_true, not_true_eq_false, and_true, mm_sh, hm, mjs_up_at, mjs_up_c, mjs_up_f]
    refine f_118 s59_36 (rd_ne c1) ?_
    simp +decide only [mjs_0, mjs_1, mjs_2, mjs_3, mjs_ble, true_and, Bool.false_eq_true, if_false, if_true, Nat.reduceAdd, Nat.reduceSub, Nat.reduceLeDiff, false_implies, true_implies, not_false_eq_true, not_true_eq_false, and_true, mm_sh, hm, mjs_up_at, mjs_up_c, mjs_up_f]
    refine mj_blk rfl ?_
    simp +decide only [mjs_0, mjs_1, mjs_2, mjs_3, mjs_ble, true_and, Bool.false_eq_true, if_false, if_true, Nat.reduceAdd, Nat.reduceSub, Nat.reduceLeDiff, false_implies, true_implies, not_false_eq_true, not_true_eq_false, and_true, mm_sh, hm, mjs_up_at, mjs_up_c, mjs_up_f]
    exact hq J c1
  refine mj_enter (z := (3, [], mb_27)) (by decide) rfl rfl ?_
  refine mj_blk rfl ?_
  simp +decide only [mjs_0, mjs_1, mjs_2, mjs_3, mjs_ble, true_and, Bool.false_eq_true, if_false, if_true, Nat.reduceAdd, Nat.reduceSub, Nat.reduceLeDiff, false_implies, true_implies, not_false_eq_true, not_true_eq_false, and_true, mc_sh, hr, mjs_up_at, mjs_up_c, mjs_up_f]
  refine p_85n hR hM' hv h hp hr' (fun t1 P1 N1 L1 I1 a1 a2 a3 a4 a5 a6 a7 a8 => ?_) (fun g1 I1 a1 a2 => ?_)
  · simp +decide only [mjs_0, mjs_1, mjs_2, mjs_3, mjs_ble, true_and, Bool.false_eq_true, if_false, if_true, Nat.reduceAdd, Nat.reduceSub, Nat.reduceLeDiff, false_implies, true_implies, not_false_eq_true, not_true_eq_false, and_true, mc_sh, hr, mjs_up_at, mjs_up_c, mjs_up_f]
    refine p_85n hR hM' a1 a2 (by omega) hr' (fun t2 P2 N2 L2 I2 b1 b2 b3 b4 b5 b6 b7 b8 => ?_) (fun g2 I2 b1 b2 => ?_)
    · have hk : N2.2.2 ≤ 1036 := (gv_d b1).2.2.1.2.1
      have hk1 : 36 ≤ N2.2.2 := (gv_d b1).2.2.1.1
      have tv1 : tv N2.2.2 t1 := tv_mono b3.1 a7
      have hxg : xs K P N S C L K P2 N2 S C L2 := xs_tr (xs_get (P' := P1) (L' := L1) a3 (by omega) a6) (xs_get b3 (by omega) b6)
      -- the first one put
      have fin : ∀ (fb3 : Nat → Nat → Int32) (K3 : Nat × Nat × Nat) (P3 : List Nat) (N3 : sgN) (S3 : sgS) (C3 : sgC) (L3 : sgL) (I3 : Nat → Nat → Int32), gv (K3, P3, E, N3, S3, M, C3, O, L3) → RC fb3 vb (K3, P3, E, N3, S3, M, C3, O, L3) I3 → P3.length ≤ 10010 → nx N2 N3 → xr k0 K N S C L K3 N3 S3 C3 L3 → RM X Rf mb_134 (kr + 13) 0 [some (.ref 36), some (.int (nI (rt t))), some (.int (nI 0)), none, none, none, none] [] (K, P, E, N, S, M, C, O, L) na 123 [some (.ref 36), none, none, some (.int (nI (rt t1))), none, none, none] [] (K3, P3, E, N3, S3, M, C3, O, L3) na → mj_rn X (mj_hd []) (mj_call X mj_P (mj_bi X) (d + 3)) mb_27 42 [some (.ref 28), some (.int (nI t1)), none] [] (sh59, I3, Lg, Rf, nc, ns) Q := by
        intro fb3 K3 P3 N3 S3 C3 L3 I3 c1 c2 c3 c4 c5 hM
        have tv3 : tv N3.2.2 t1 := tv_mono c4.1 tv1
        have hk3 : N3.2.2 ≤ 1036 := (gv_d c1).2.2.1.2.1
        have hk31 : 36 ≤ N3.2.2 := (gv_d c1).2.2.1.1
        refine mj_blk rfl ?_
        simp +decide only [mjs_0, mjs_1, mjs_2, mjs_3, mjs_ble, true_and, Bool.false_eq_true, if_false, if_true, Nat.reduceAdd, Nat.reduceSub, Nat.reduceLeDiff, false_implies, true_implies, not_false_eq_true, not_true_eq_false, and_true, mc_sh, hr, mjs_up_at, mjs_up_c, mjs_up_f]
        refine cq_84 hR c2 (by omega) (fun I4 c6 _ => ?_)
        simp +decide only [mjs_0, mjs_1, mjs_2, mjs_3, mjs_ble, true_and, Bool.false_eq_true, if_false, if_true, Nat.reduceAdd, Nat.reduceSub, Nat.reduceLeDiff, false_implies, true_implies, not_false_eq_true, not_true_eq_false, and_true]
        refine hQ1 fb3 K3 (t1 :: P3) N3 S3 C3 L3 I4 (gv_P1 c1 tv3) c6 (by rw [List.length_cons]; omega) c5 (rm_e hM ?_)
        intro H Lg d nc ns J Q hJ hA hq
        obtain ⟨D, hD, hDk⟩ : ∃ D, d + (kr + 13) = D + 13 ∧ kr ≤ D := ⟨d + kr, by omega, by omega⟩
        rw [hD]
        try rw [hD] at hq
        refine mj_blk rfl ?_
        simp +decide only [mjs_0, mjs_1, mjs_2, mjs_3, mjs_ble, true_and, Bool.false_eq_true, if_false, if_true, Nat.reduceAdd, Nat.reduceSub, Nat.reduceLeDiff, false_implies, true_implies, not_false_eq_true, not_true_eq_false, and_true, mm_sh, hm, mjs_up_at, mjs_up_c, mjs_up_f]
        refine rq_118 hM' hJ (by have := rt_lt hk3 hk31 tv3; omega) (by omega) (fun J2 c7 => ?_)
        simp +decide only [mjs_0, mjs_1, mjs_2, mjs_3, mjs_ble, true_and, Bool.false_eq_true, if_false, if_true, Nat.reduceAdd, Nat.reduceSub, Nat.reduceLeDiff, false_implies, true_implies, not_false_eq_true, not_true_eq_false, and_true, mm_sh, hm, mjs_up_at, mjs_up_c, mjs_up_f]
        refine mj_blk rfl ?_
        simp +decide only [mjs_0, mjs_1, mjs_2, mjs_3, mjs_ble, true_and, Bool.false_eq_true, if_false, if_true, Nat.reduceAdd, Nat.reduceSub, Nat.reduceLeDiff, false_implies, true_implies, not_false_eq_true, not_true_eq_false, and_true, mm_sh, hm, mjs_up_at, mjs_up_c, mjs_up_f]
        exact hq H J2 hx_rf c7 trivial
      simp +decide only [mjs_0, mjs_1, mjs_2, mjs_3, mjs_ble, true_and, Bool.false_eq_true, if_false, if_true, Nat.reduceAdd, Nat.reduceSub, Nat.reduceLeDiff, false_implies, true_implies, not_false_eq_true, not_true_eq_false, and_true, mc_sh, hr, mjs_up_at, mjs_up_c, mjs_up_f]
      refine cq_24 hR b2 b1 b7 (fun e => ?_) (fun e => ?_)
      · simp +decide only [mjs_0, mjs_1, mjs_2, mjs_3, mjs_ble, true_and, Bool.false_eq_true, if_false, if_true, Nat.reduceAdd, Nat.reduceSub, Nat.reduceLeDiff, false_implies, true_implies, not_false_eq_true, not_true_eq_false, and_true]
        refine mj_blk rfl ?_
        simp +decide only [mjs_0, mjs_1, mjs_2, mjs_3, mjs_ble, true_and, Bool.false_eq_true, if_false, if_true, Nat.reduceAdd, Nat.reduceSub, Nat.reduceLeDiff, false_implies, true_implies, not_false_eq_true, not_true_eq_false, and_true, mc_sh]
        refine hP fb K P2 E N2 S M C O L2 t2 nc ns Lg I2 _ (d + 3) (by omega) hn hr' b1 hw (by omega) b7 e b2 (fun fb3 K3 P3 N3 S3 C3 L3 I3 c1 c2 c3 c4 c5 c6 => ?_) (fun g3 I3 c1 c2 => ?_)
        · simp +decide only [mjs_0, mjs_1, mjs_2, mjs_3, mjs_ble, true_and, Bool.false_eq_true, if_false, if_true, Nat.reduceAdd, Nat.reduceSub, Nat.reduceLeDiff, false_implies, true_implies, not_false_eq_true, not_true_eq_false, and_true]
          refine mj_nv (fin fb3 K3 P3 N3 S3 C3 L3 I3 c1 c2 (by omega) c5.1 (xr_of (by omega) (xs_tr hxg c5)) ?_)
          intro H Lg d nc ns J Q hJ hA hq
          obtain ⟨D, hD, hDk⟩ : ∃ D, d + (kr + 13) = D + 13 ∧ kr ≤ D := ⟨d + kr, by omega, by omega⟩
          rw [hD]
          try rw [hD] at hq
          refine mj_blk rfl ?_
          simp +decide only [mjs_0, mjs_1, mjs_2, mjs_3, mjs_ble, true_and, Bool.false_eq_true, if_false, if_true, Nat.reduceAdd, Nat.reduceSub, Nat.reduceLeDiff, false_implies, true_implies, not_false_eq_true, not_true_eq_false, and_true, mm_sh, hm, mjs_up_at, mjs_up_c, mjs_up_f]
          refine mj_blk rfl ?_
          simp +decide only [mjs_0, mjs_1, mjs_2, mjs_3, mjs_ble, true_and, Bool.false_eq_true, if_false, if_true, Nat.reduceAdd, Nat.reduceSub, Nat.reduceLeDiff, false_implies, true_implies, not_false_eq_true, not_true_eq_false, and_true, mm_sh, hm, mjs_up_at, mjs_up_c, mjs_up_f]
          refine a8 H Lg (D + 7) nc ns J _ hJ (fun J1 e1 => ?_)
          simp +decide only [mjs_0, mjs_1, mjs_2, mjs_3, mjs_ble, true_and, Bool.false_eq_true, if_false, if_true, Nat.reduceAdd, Nat.reduceSub, Nat.reduceLeDiff, false_implies, true_implies, not_false_eq_true, not_true_eq_false, and_true, mm_sh, hm, mjs_up_at, mjs_up_c, mjs_up_f]
          refine b8 H Lg (D + 7) nc ns J1 _ e1 (fun J2 e2 => ?_)
          simp +decide only [mjs_0, mjs_1, mjs_2, mjs_3, mjs_ble, true_and, Bool.false_eq_true, if_false, if_true, Nat.reduceAdd, Nat.reduceSub, Nat.reduceLeDiff, false_implies, true_implies, not_false_eq_true, not_true_eq_false, and_true, mm_sh, hm, mjs_up_at, mjs_up_c, mjs_up_f]
          refine rq_127 hM' e2 b1 b7 (fun _ => ?_) (fun e' => absurd e e')
          simp +decide only [mjs_0, mjs_1, mjs_2, mjs_3, mjs_ble, true_and, Bool.false_eq_true, if_false, if_true, Nat.reduceAdd, Nat.reduceSub, Nat.reduceLeDiff, false_implies, true_implies, not_false_eq_true, not_true_eq_false, and_true, mm_sh, hm, mjs_up_at, mjs_up_c, mjs_up_f]
          refine mj_blk rfl ?_
          simp +decide only [mjs_0, mjs_1, mjs_2, mjs_3, mjs_ble, true_and, Bool.false_eq_true, if_false, if_true, Nat.reduceAdd, Nat.reduceSub, Nat.reduceLeDiff, false_implies, true_implies, not_false_eq_true, not_true_eq_false, and_true, mm_sh, hm, mjs_up_at, mjs_up_c, mjs_up_f]
          refine rx_at c6 (by omega) e2 trivial (fun H3 J3 e3 e4 _ => ?_)
          simp +decide only [mjs_0, mjs_1, mjs_2, mjs_3, mjs_ble, true_and, Bool.false_eq_true, if_false, if_true, Nat.reduceAdd, Nat.reduceSub, Nat.reduceLeDiff, false_implies, true_implies, not_false_eq_true, not_true_eq_false, and_true, mm_sh, hm, mjs_up_at, mjs_up_c, mjs_up_f]
          exact mj_nv (hq H3 J3 e3 e4 trivial)
        · simp +decide only [mjs_0, mjs_1, mjs_2, mjs_3, mjs_ble, true_and, Bool.false_eq_true, if_false, if_true, Nat.reduceAdd, Nat.reduceSub, Nat.reduceLeDiff, false_implies, true_implies, not_false_eq_true, not_true_eq_false, and_true]
          refine hQ3 g3 I3 c1 ?_
          intro H Lg d nc ns J Q hJ hA hq
          obtain ⟨D, hD, hDk⟩ : ∃ D, d + (kr + 13) = D + 13 ∧ kr ≤ D := ⟨d + kr, by omega, by omega⟩
          rw [hD]
          try rw [hD] at hq
          refine mj_blk rfl ?_
          simp +decide only [mjs_0, mjs_1, mjs_2, mjs_3, mjs_ble, true_and, Bool.false_eq_true, if_false, if_true, Nat.reduceAdd, Nat.reduceSub, Nat.reduceLeDiff, false_implies, true_implies, not_false_eq_true, not_true_eq_false, and_true, mm_sh, hm, mjs_up_at, mjs_up_c, mjs_up_f]
          refine mj_blk rfl ?_
          simp +decide only [mjs_0, mjs_1, mjs_2, mjs_3, mjs_ble, true_and, Bool.false_eq_true, if_false, if_true, Nat.reduceAdd, Nat.reduceSub, Nat.reduceLeDiff, false_implies, true_implies, not_false_eq_true, not_true_eq_false, and_true, mm_sh, hm, mjs_up_at, mjs_up_c, mjs_up_f]
          refine a8 H Lg (D + 7) nc ns J _ hJ (fun J1 e1 => ?_)
          simp +decide only [mjs_0, mjs_1, mjs_2, mjs_3, mjs_ble, true_and, Bool.false_eq_true, if_false, if_true, Nat.reduceAdd, Nat.reduceSub, Nat.reduceLeDiff, false_implies, true_implies, not_false_eq_true, not_true_eq_false, and_true, mm_sh, hm, mjs_up_at, mjs_up_c, mjs_up_f]
          refine b8 H Lg (D + 7) nc ns J1 _ e1 (fun J2 e2 => ?_)
          simp +decide only [mjs_0, mjs_1, mjs_2, mjs_3, mjs_ble, true_and, Bool.false_eq_true, if_false, if_true, Nat.reduceAdd, Nat.reduceSub, Nat.reduceLeDiff, false_implies, true_implies, not_false_eq_true, not_true_eq_false, and_true, mm_sh, hm, mjs_up_at, mjs_up_c, mjs_up_f]
          refine rq_127 hM' e2 b1 b7 (fun _ => ?_) (fun e' => absurd e e')
          simp +decide only [mjs_0, mjs_1, mjs_2, mjs_3, mjs_ble, true_and, Bool.false_eq_true, if_false, if_true, Nat.reduceAdd, Nat.reduceSub, Nat.reduceLeDiff, false_implies, true_implies, not_false_eq_true, not_true_eq_false, and_true, mm_sh, hm, mjs_up_at, mjs_up_c, mjs_up_f]
          refine mj_blk rfl ?_
          simp +decide only [mjs_0, mjs_1, mjs_2, mjs_3, mjs_ble, true_and, Bool.false_eq_true, if_false, if_true, Nat.reduceAdd, Nat.reduceSub, Nat.reduceLeDiff, false_implies, true_implies, not_false_eq_true, not_true_eq_false, and_true, mm_sh, hm, mjs_up_at, mjs_up_c, mjs_up_f]
          refine ry_at c2 (by omega) e2 trivial (fun J3 e3 => ?_)
          simp +decide only [mjs_0, mjs_1, mjs_2, mjs_3, mjs_ble, true_and, Bool.false_eq_true, if_false, if_true, Nat.reduceAdd, Nat.reduceSub, Nat.reduceLeDiff, false_implies, true_implies, not_false_eq_true, not_true_eq_false, and_true, mm_sh, hm, mjs_up_at, mjs_up_c, mjs_up_f]
          exact mj_nv (fEnd e3 hq)
      · simp +decide only [mjs_0, mjs_1, mjs_2, mjs_3, mjs_ble, true_and, Bool.false_eq_true, if_false, if_true, Nat.reduceAdd, Nat.reduceSub, Nat.reduceLeDiff, false_implies, true_implies, not_false_eq_true, not_true_eq_false, and_true]
        refine mj_blk rfl ?_
        simp +decide only [mjs_0, mjs_1, mjs_2, mjs_3, mjs_ble, true_and, Bool.false_eq_true, if_false, if_true, Nat.reduceAdd, Nat.reduceSub, Nat.reduceLeDiff, false_implies, true_implies, not_false_eq_true, not_true_eq_false, and_true, mc_sh, hr, mjs_up_at, mjs_up_c, mjs_up_f]
        refine cq_84 hR b2 (by omega) (fun I3 c2 _ => ?_)
        simp +decide only [mjs_0, mjs_1, mjs_2, mjs_3, mjs_ble, true_and, Bool.false_eq_true, if_false, if_true, Nat.reduceAdd, Nat.reduceSub, Nat.reduceLeDiff, false_implies, true_implies, not_false_eq_true, not_true_eq_false, and_true]
        refine mj_nv (fin fb K (t2 :: P2) N2 S C L2 I3 (gv_P1 b1 b7) c2 (by rw [List.length_cons]; omega) nx_rf (xr_of (by omega) hxg) ?_)
        intro H Lg d nc ns J Q hJ hA hq
        obtain ⟨D, hD, hDk⟩ : ∃ D, d + (kr + 13) = D + 13 ∧ kr ≤ D := ⟨d + kr, by omega, by omega⟩
        rw [hD]
        try rw [hD] at hq
        refine mj_blk rfl ?_
        simp +decide only [mjs_0, mjs_1, mjs_2, mjs_3, mjs_ble, true_and, Bool.false_eq_true, if_false, if_true, Nat.reduceAdd, Nat.reduceSub, Nat.reduceLeDiff, false_implies, true_implies, not_false_eq_true, not_true_eq_false, and_true, mm_sh, hm, mjs_up_at, mjs_up_c, mjs_up_f]
        refine mj_blk rfl ?_
        simp +decide only [mjs_0, mjs_1, mjs_2, mjs_3, mjs_ble, true_and, Bool.false_eq_true, if_false, if_true, Nat.reduceAdd, Nat.reduceSub, Nat.reduceLeDiff, false_implies, true_implies, not_false_eq_true, not_true_eq_false, and_true, mm_sh, hm, mjs_up_at, mjs_up_c, mjs_up_f]
        refine a8 H Lg (D + 7) nc ns J _ hJ (fun J1 e1 => ?_)
        simp +decide only [mjs_0, mjs_1, mjs_2, mjs_3, mjs_ble, true_and, Bool.false_eq_true, if_false, if_true, Nat.reduceAdd, Nat.reduceSub, Nat.reduceLeDiff, false_implies, true_implies, not_false_eq_true, not_true_eq_false, and_true, mm_sh, hm, mjs_up_at, mjs_up_c, mjs_up_f]
        refine b8 H Lg (D + 7) nc ns J1 _ e1 (fun J2 e2 => ?_)
        simp +decide only [mjs_0, mjs_1, mjs_2, mjs_3, mjs_ble, true_and, Bool.false_eq_true, if_false, if_true, Nat.reduceAdd, Nat.reduceSub, Nat.reduceLeDiff, false_implies, true_implies, not_false_eq_true, not_true_eq_false, and_true, mm_sh, hm, mjs_up_at, mjs_up_c, mjs_up_f]
        refine rq_127 hM' e2 b1 b7 (fun e' => absurd e' e) (fun _ => ?_)
        simp +decide only [mjs_0, mjs_1, mjs_2, mjs_3, mjs_ble, true_and, Bool.false_eq_true, if_false, if_true, Nat.reduceAdd, Nat.reduceSub, Nat.reduceLeDiff, false_implies, true_implies, not_false_eq_true, not_true_eq_false, and_true, mm_sh, hm, mjs_up_at, mjs_up_c, mjs_up_f]
        refine mj_blk rfl ?_
        simp +decide only [mjs_0, mjs_1, mjs_2, mjs_3, mjs_ble, true_and, Bool.false_eq_true, if_false, if_true, Nat.reduceAdd, Nat.reduceSub, Nat.reduceLeDiff, false_implies, true_implies, not_false_eq_true, not_true_eq_false, and_true, mm_sh, hm, mjs_up_at, mjs_up_c, mjs_up_f]
        refine rq_118 hM' e2 (by have := rt_lt hk hk1 b7; omega) (by omega) (fun J3 e3 => ?_)
        simp +decide only [mjs_0, mjs_1, mjs_2, mjs_3, mjs_ble, true_and, Bool.false_eq_true, if_false, if_true, Nat.reduceAdd, Nat.reduceSub, Nat.reduceLeDiff, false_implies, true_implies, not_false_eq_true, not_true_eq_false, and_true, mm_sh, hm, mjs_up_at, mjs_up_c, mjs_up_f]
        exact mj_nv (hq H J3 hx_rf e3 trivial)
    · simp +decide only [mjs_0, mjs_1, mjs_2, mjs_3, mjs_ble, true_and, Bool.false_eq_true, if_false, if_true, Nat.reduceAdd, Nat.reduceSub, Nat.reduceLeDiff, false_implies, true_implies, not_false_eq_true, not_true_eq_false, and_true]
      refine hQ3 g2 I2 b1 ?_
      intro H Lg d nc ns J Q hJ hA hq
      obtain ⟨D, hD, hDk⟩ : ∃ D, d + (kr + 13) = D + 13 ∧ kr ≤ D := ⟨d + kr, by omega, by omega⟩
      rw [hD]
      try rw [hD] at hq
      refine mj_blk rfl ?_
      simp +decide only [mjs_0, mjs_1, mjs_2, mjs_3, mjs_ble, true_and, Bool.false_eq_true, if_false, if_true, Nat.reduceAdd, Nat.reduceSub, Nat.reduceLeDiff, false_implies, true_implies, not_false_eq_true, not_true_eq_false, and_true, mm_sh, hm, mjs_up_at, mjs_up_c, mjs_up_f]
      refine mj_blk rfl ?_
      simp +decide only [mjs_0, mjs_1, mjs_2, mjs_3, mjs_ble, true_and, Bool.false_eq_true, if_false, if_true, Nat.reduceAdd, Nat.reduceSub, Nat.reduceLeDiff, false_implies, true_implies, not_false_eq_true, not_true_eq_false, and_true, mm_sh, hm, mjs_up_at, mjs_up_c, mjs_up_f]
      refine a8 H Lg (D + 7) nc ns J _ hJ (fun J1 e1 => ?_)
      simp +decide only [mjs_0, mjs_1, mjs_2, mjs_3, mjs_ble, true_and, Bool.false_eq_true, if_false, if_true, Nat.reduceAdd, Nat.reduceSub, Nat.reduceLeDiff, false_implies, true_implies, not_false_eq_true, not_true_eq_false, and_true, mm_sh, hm, mjs_up_at, mjs_up_c, mjs_up_f]
      refine b2 H Lg (D + 7) nc ns J1 _ e1 (fun J2 e2 => ?_)
      simp +decide only [mjs_0, mjs_1, mjs_2, mjs_3, mjs_ble, true_and, Bool.false_eq_true, if_false, if_true, Nat.reduceAdd, Nat.reduceSub, Nat.reduceLeDiff, false_implies, true_implies, not_false_eq_true, not_true_eq_false, and_true, mm_sh, hm, mjs_up_at, mjs_up_c, mjs_up_f]
      refine r_127e ?_
      simp +decide only [mjs_0, mjs_1, mjs_2, mjs_3, mjs_ble, true_and, Bool.false_eq_true, if_false, if_true, Nat.reduceAdd, Nat.reduceSub, Nat.reduceLeDiff, false_implies, true_implies, not_false_eq_true, not_true_eq_false, and_true, mm_sh, hm, mjs_up_at, mjs_up_c, mjs_up_f]
      refine mj_blk rfl ?_
      simp +decide only [mjs_0, mjs_1, mjs_2, mjs_3, mjs_ble, true_and, Bool.false_eq_true, if_false, if_true, Nat.reduceAdd, Nat.reduceSub, Nat.reduceLeDiff, false_implies, true_implies, not_false_eq_true, not_true_eq_false, and_true, mm_sh, hm, mjs_up_at, mjs_up_c, mjs_up_f]
      refine r_118e ?_
      simp +decide only [mjs_0, mjs_1, mjs_2, mjs_3, mjs_ble, true_and, Bool.false_eq_true, if_false, if_true, Nat.reduceAdd, Nat.reduceSub, Nat.reduceLeDiff, false_implies, true_implies, not_false_eq_true, not_true_eq_false, and_true, mm_sh, hm, mjs_up_at, mjs_up_c, mjs_up_f]
      exact mj_nv (fEnd e2 hq)
  · simp +decide only [mjs_0, mjs_1, mjs_2, mjs_3, mjs_ble, true_and, Bool.false_eq_true, if_false, if_true, Nat.reduceAdd, Nat.reduceSub, Nat.reduceLeDiff, false_implies, true_implies, not_false_eq_true, not_true_eq_false, and_true]
    refine hQ3 g1 I1 a1 ?_
    intro H Lg d nc ns J Q hJ hA hq
    obtain ⟨D, hD, hDk⟩ : ∃ D, d + (kr + 13) = D + 13 ∧ kr ≤ D := ⟨d + kr, by omega, by omega⟩
    rw [hD]
    try rw [hD] at hq
    refine mj_blk rfl ?_
    simp +decide only [mjs_0, mjs_1, mjs_2, mjs_3, mjs_ble, true_and, Bool.false_eq_true, if_false, if_true, Nat.reduceAdd, Nat.reduceSub, Nat.reduceLeDiff, false_implies, true_implies, not_false_eq_true, not_true_eq_false, and_true, mm_sh, hm, mjs_up_at, mjs_up_c, mjs_up_f]
    refine mj_blk rfl ?_
    simp +decide only [mjs_0, mjs_1, mjs_2, mjs_3, mjs_ble, true_and, Bool.false_eq_true, if_false, if_true, Nat.reduceAdd, Nat.reduceSub, Nat.reduceLeDiff, false_implies, true_implies, not_false_eq_true, not_true_eq_false, and_true, mm_sh, hm, mjs_up_at, mjs_up_c, mjs_up_f]
    refine a2 H Lg (D + 7) nc ns J _ hJ (fun J1 e1 => ?_)
    simp +decide only [mjs_0, mjs_1, mjs_2, mjs_3, mjs_ble, true_and, Bool.false_eq_true, if_false, if_true, Nat.reduceAdd, Nat.reduceSub, Nat.reduceLeDiff, false_implies, true_implies, not_false_eq_true, not_true_eq_false, and_true, mm_sh, hm, mjs_up_at, mjs_up_c, mjs_up_f]
    refine f_117 s59_36 (rd_ne e1) (rd_nle e1) ?_
    simp +decide only [mjs_0, mjs_1, mjs_2, mjs_3, mjs_ble, true_and, Bool.false_eq_true, if_false, if_true, Nat.reduceAdd, Nat.reduceSub, Nat.reduceLeDiff, false_implies, true_implies, not_false_eq_true, not_true_eq_false, and_true, mm_sh, hm, mjs_up_at, mjs_up_c, mjs_up_f]
    refine r_127e ?_
    simp +decide only [mjs_0, mjs_1, mjs_2, mjs_3, mjs_ble, true_and, Bool.false_eq_true, if_false, if_true, Nat.reduceAdd, Nat.reduceSub, Nat.reduceLeDiff, false_implies, true_implies, not_false_eq_true, not_true_eq_false, and_true, mm_sh, hm, mjs_up_at, mjs_up_c, mjs_up_f]
    refine mj_blk rfl ?_
    simp +decide only [mjs_0, mjs_1, mjs_2, mjs_3, mjs_ble, true_and, Bool.false_eq_true, if_false, if_true, Nat.reduceAdd, Nat.reduceSub, Nat.reduceLeDiff, false_implies, true_implies, not_false_eq_true, not_true_eq_false, and_true, mm_sh, hm, mjs_up_at, mjs_up_c, mjs_up_f]
    refine r_118e ?_
    simp +decide only [mjs_0, mjs_1, mjs_2, mjs_3, mjs_ble, true_and, Bool.false_eq_true, if_false, if_true, Nat.reduceAdd, Nat.reduceSub, Nat.reduceLeDiff, false_implies, true_implies, not_false_eq_true, not_true_eq_false, and_true, mm_sh, hm, mjs_up_at, mjs_up_c, mjs_up_f]
    exact mj_nv (fEnd e1 hq)
theorem x_after (hR : mj_Rt mp_R Rf) (hM' : mj_Rt mm_R Rf) (hP : XP X Rf vb kc kr n) (hX : XD X Rf vb (kc + 1) (kr + 1) n) (hN : NU X Rf vb kc kr n) (hT : X.2.1[0]? = some mj_t1) {D : Nat} (hD : kc + 10 ≤ D) (hn : K.2.2 + n = 40) (hr' : nc + 1 ≤ X.2.2.1 ∧ ns + 6 ≤ X.2.2.2) (hv : gv (K, P, E, N, S, M, C, O, L)) (hw : gw K S) (hk0 : K.1 = k0 + 1) (hsv : S.2.2.2 ≤ k0) (h1 : 1 ≤ K.2.2) (hE1 : em_v (K.2.2 - 1) E) (hp : P.length ≤ 10000) (h : RC fb vb (K, P, E, N, S, M, C, O, L) I)
    (hQ1 : ∀ fb' K' P' N' S' C' L' I', gv (K', P', E, N', S', M, C', O, L') → RC fb' vb (K', P', E, N', S', M, C', O, L') I' → P'.length ≤ 10060 → xr k0 K N S C L K' N' S' C' L' → RX X Rf (kr + 14) 134 [.ref 36, .int (nI (rt t)), .int (nI 0)] (K, P, E, N, S, M, C, O, L) na none (K', P', E, N', S', M, C', O, L') na → Q (.inl none) (sh59, I', Lg, Rf, nc, ns))
    (hQ3 : ∀ g' I', RCf fb vb g' I' → RY X Rf (kr + 14) 134 [.ref 36, .int (nI (rt t)), .int (nI 0)] (K, P, E, N, S, M, C, O, L) na none g' → Q (.inr 500) (sh59, I', Lg, Rf, nc + 1, ns + 6)) :
    mj_call X mj_P (mj_bi X) D 26 [.ref 28, .int (nI 1), .int (nI t)] (sh59, I, Lg, Rf, nc, ns) Q := by
  have hr := mc_rf hR
  have hm := mm_rf hM'
  obtain ⟨d, rfl⟩ : ∃ d, D = d + 10 := ⟨D - 10, by omega⟩
  have qF : ∀ g' I', RCf fb vb g' I' → RMf X Rf mb_134 (kr + 13) 0 [some (.ref 36), some (.int (nI (rt t))), some (.int (nI 0)), none, none, none, none] [] (K, P, E, N, S, M, C, O, L) na none g' → Q (.inr 500) (sh59, I', Lg, Rf, nc + 1, ns + 6) := fun g' I' a1 a2 => hQ3 g' I' a1 (ry_in (z := 7) (by decide) rfl rfl rfl a2)
  have qE : ∀ fb' K' P' N' S' C' L' I', gv (K', P', E, N', S', M, C', O, L') → RC fb' vb (K', P', E, N', S', M, C', O, L') I' → P'.length ≤ 10060 → xr k0 K N S C L K' N' S' C' L' → RMe X Rf mb_134 (kr + 13) 0 [some (.ref 36), some (.int (nI (rt t))), some (.int (nI 0)), none, none, none, none] [] (K, P, E, N, S, M, C, O, L) na none (K', P', E, N', S', M, C', O, L') na → Q (.inl none) (sh59, I', Lg, Rf, nc, ns) := fun fb' K' P' N' S' C' L' I' a1 a2 a3 a4 a5 => hQ1 fb' K' P' N' S' C' L' I' a1 a2 a3 a4 (rx_in (z := 7) (by decide) rfl rfl rfl a5)
  refine mj_enter (z := (5, [], mb_26)) (by decide) rfl rfl ?_
  refine mj_blk rfl ?_
  simp +decide only [mjs_0, mjs_1, mjs_2, mjs_3, mjs_ble, true_and, Bool.false_eq_true, if_false, if_true, Nat.reduceAdd, Nat.reduceSub, Nat.reduceLeDiff, false_implies, true_implies, not_false_eq_true, not_true_eq_false, and_true]
  refine mj_blk rfl ?_
  simp +decide only [mjs_0, mjs_1, mjs_2, mjs_3, mjs_ble, true_and, Bool.false_eq_true, if_false, if_true, Nat.reduceAdd, Nat.reduceSub, Nat.reduceLeDiff, false_implies, true_implies, not_false_eq_true, not_true_eq_false, and_true, mc_sh]
  refine p_27 (t := t) (k0 := k0) hR hM' hP (by omega) hn hr' hv hw hk0 hp h (fun fb1 K1 P1 N1 S1 C1 L1 I1 a1 a2 a3 a4 a5 => ?_) (fun g1 I1 a1 a2 => ?_)
  · simp +decide only [mjs_0, mjs_1, mjs_2, mjs_3, mjs_ble, true_and, Bool.false_eq_true, if_false, if_true, Nat.reduceAdd, Nat.reduceSub, Nat.reduceLeDiff, false_implies, true_implies, not_false_eq_true, not_true_eq_false, and_true]
    refine mj_blk rfl ?_
    simp +decide only [mjs_0, mjs_1, mjs_2, mjs_3, mjs_ble, true_and, Bool.false_eq_true, if_false, if_true, Nat.reduceAdd, Nat.reduceSub, Nat.reduceLeDiff, false_implies, true_implies, not_false_eq_true, not_true_eq_false, and_true]
    exact qE fb1 K1 P1 N1 S1 C1 L1 I1 a1 a2 a3 a4 a5
  · simp +decide only [mjs_0, mjs_1, mjs_2, mjs_3, mjs_ble, true_and, Bool.false_eq_true, if_false, if_true, Nat.reduceAdd, Nat.reduceSub, Nat.reduceLeDiff, false_implies, true_implies, not_false_eq_true, not_true_eq_false, and_true]
    exact qF g1 I1 a1 a2
theorem x_else (hR : mj_Rt mp_R Rf) (hM' : mj_Rt mm_R Rf) (hP : XP X Rf vb kc kr n) (hX : XD X Rf vb (kc + 1) (kr + 1) n) (hN : NU X Rf vb kc kr n) (hT : X.2.1[0]? = some mj_t1) {D : Nat} (hD : kc + 10 ≤ D) (hn : K.2.2 + n = 40) (hr' : nc + 1 ≤ X.2.2.1 ∧ ns + 6 ≤ X.2.2.2) (hv : gv (K, P, E, N, S, M, C, O, L)) (hw : gw K S) (hk0 : K.1 = k0 + 1) (hsv : S.2.2.2 ≤ k0) (h1 : 1 ≤ K.2.2) (hE1 : em_v (K.2.2 - 1) E) (hp : P.length ≤ 10000) (ht : tv N.2.2 t) (hp9 : P.length ≤ 9999) (h : RC fb vb (K, P, E, N, S, M, C, O, L) I)
    (hQ1 : ∀ fb' K' P' N' S' C' L' I', gv (K', P', E, N', S', M, C', O, L') → RC fb' vb (K', P', E, N', S', M, C', O, L') I' → P'.length ≤ 10060 → xr k0 K N S C L K' N' S' C' L' → RX X Rf (kr + 14) 134 [.ref 36, .int (nI (rt t)), .int (nI 15)] (K, P, E, N, S, M, C, O, L) na none (K', P', E, N', S', M, C', O, L') na → Q (.inl none) (sh59, I', Lg, Rf, nc, ns))
    (hQ3 : ∀ g' I', RCf fb vb g' I' → RY X Rf (kr + 14) 134 [.ref 36, .int (nI (rt t)), .int (nI 15)] (K, P, E, N, S, M, C, O, L) na none g' → Q (.inr 500) (sh59, I', Lg, Rf, nc + 1, ns + 6)) :
    mj_call X mj_P (mj_bi X) D 26 [.ref 28, .int (nI 16), .int (nI t)] (sh59, I, Lg, Rf, nc, ns) Q := by
  have hr := mc_rf hR
  have hm := mm_rf hM'
  obtain ⟨d, rfl⟩ : ∃ d, D = d + 10 := ⟨D - 10, by omega⟩
  have qF : ∀ g' I', RCf fb vb g' I' → RMf X Rf mb_134 (kr + 13) 0 [some (.ref 36), some (.int (nI (rt t))), some (.int (nI 15)), none, none, none, none] [] (K, P, E, N, S, M, C, O, L) na none g' → Q (.inr 500) (sh59, I', Lg, Rf, nc + 1, ns + 6) := fun g' I' a1 a2 => hQ3 g' I' a1 (ry_in (z := 7) (by decide) rfl rfl rfl a2)
  have qE : ∀ fb' K' P' N' S' C' L' I', gv (K', P', E, N', S', M, C', O, L') → RC fb' vb (K', P', E, N', S', M, C', O, L') I' → P'.length ≤ 10060 → xr k0 K N S C L K' N' S' C' L' → RMe X Rf mb_134 (kr + 13) 0 [some (.ref 36), some (.int (nI (rt t))), some (.int (nI 15)), none, none, none, none] [] (K, P, E, N, S, M, C, O, L) na none (K', P', E, N', S', M, C', O, L') na → Q (.inl none) (sh59, I', Lg, Rf, nc, ns) := fun fb' K' P' N' S' C' L' I' a1 a2 a3 a4 a5 => hQ1 fb' K' P' N' S' C' L' I' a1 a2 a3 a4 (rx_in (z := 7) (by decide) rfl rfl rfl a5)
  refine mj_enter (z := (5, [], mb_26)) (by decide) rfl rfl ?_
  refine mj_blk rfl ?_
  simp +decide only [mjs_0, mjs_1, mjs_2, mjs_3, mjs_ble, true_and, Bool.false_eq_true, if_false, if_true, Nat.reduceAdd, Nat.reduceSub, Nat.reduceLeDiff, false_implies, true_implies, not_false_eq_true, not_true_eq_false, and_true]
  refine mj_blk rfl ?_
  simp +decide only [mjs_0, mjs_1, mjs_2, mjs_3, mjs_ble, true_and, Bool.false_eq_true, if_false, if_true, Nat.reduceAdd, Nat.reduceSub, Nat.reduceLeDiff, false_implies, true_implies, not_false_eq_true, not_true_eq_false, and_true, mc_sh, hr, mjs_up_at, mjs_up_c, mjs_up_f]
  refine p_20 (p := 16) hR hM' hv h hp9 hr' (by decide) ht (fun P1 N1 C1 L1 I1 a1 a2 a3 a4 a5 a6 a7 => ?_) (fun g1 I1 a1 a2 => ?_)
  · simp +decide only [mjs_0, mjs_1, mjs_2, mjs_3, mjs_ble, true_and, Bool.false_eq_true, if_false, if_true, Nat.reduceAdd, Nat.reduceSub, Nat.reduceLeDiff, false_implies, true_implies, not_false_eq_true, not_true_eq_false, and_true]
    refine mj_blk rfl ?_
    simp +decide only [mjs_0, mjs_1, mjs_2, mjs_3, mjs_ble, true_and, Bool.false_eq_true, if_false, if_true, Nat.reduceAdd, Nat.reduceSub, Nat.reduceLeDiff, false_implies, true_implies, not_false_eq_true, not_true_eq_false, and_true]
    have hcx : cx C C1 := by
      rcases a6 with rfl | ⟨x1, x2, rfl⟩
      · exact cx_rf
      · intro j hj h0
        refine ⟨?_, h0, rfl⟩
        show j < C.1 - 1
        by_cases e : j = C.1 - 1
        · rw [e] at h0
          exact absurd h0 x2
        · omega
    refine qE fb K P1 N1 S C1 L1 I1 a1 a2 (by omega) ⟨a3, ⟨Nat.le_refl _, rfl⟩, a4, ⟨rfl, by show S.2.2.2 + k0 ≤ S.2.2.2 + K.1; omega, rfl, fun _ _ _ _ => rfl, fun _ _ => Or.inl rfl⟩, hcx⟩ ?_
    intro H Lg d nc ns J Q hJ hA hq
    obtain ⟨D, hD, hDk⟩ : ∃ D, d + (kr + 13) = D + 13 ∧ kr ≤ D := ⟨d + kr, by omega, by omega⟩
    rw [hD]
    try rw [hD] at hq
    refine mj_blk rfl ?_
    simp +decide only [mjs_0, mjs_1, mjs_2, mjs_3, mjs_ble, true_and, Bool.false_eq_true, if_false, if_true, Nat.reduceAdd, Nat.reduceSub, Nat.reduceLeDiff, false_implies, true_implies, not_false_eq_true, not_true_eq_false, and_true, mm_sh, hm, mjs_up_at, mjs_up_c, mjs_up_f]
    refine mj_blk rfl ?_
    simp +decide only [mjs_0, mjs_1, mjs_2, mjs_3, mjs_ble, true_and, Bool.false_eq_true, if_false, if_true, Nat.reduceAdd, Nat.reduceSub, Nat.reduceLeDiff, false_implies, true_implies, not_false_eq_true, not_true_eq_false, and_true, mm_sh, hm, mjs_up_at, mjs_up_c, mjs_up_f]
    refine a7 H Lg (D + 6) nc ns J _ hJ (fun J1 c1 => ?_)
    simp +decide only [mjs_0, mjs_1, mjs_2, mjs_3, mjs_ble, true_and, Bool.false_eq_true, if_false, if_true, Nat.reduceAdd, Nat.reduceSub, Nat.reduceLeDiff, false_implies, true_implies, not_false_eq_true, not_true_eq_false, and_true, mm_sh, hm, mjs_up_at, mjs_up_c, mjs_up_f]
    refine mj_blk rfl ?_
    simp +decide only [mjs_0, mjs_1, mjs_2, mjs_3, mjs_ble, true_and, Bool.false_eq_true, if_false, if_true, Nat.reduceAdd, Nat.reduceSub, Nat.reduceLeDiff, false_implies, true_implies, not_false_eq_true, not_true_eq_false, and_true, mm_sh, hm, mjs_up_at, mjs_up_c, mjs_up_f]
    exact hq H J1 hx_rf c1 trivial
  · simp +decide only [mjs_0, mjs_1, mjs_2, mjs_3, mjs_ble, true_and, Bool.false_eq_true, if_false, if_true, Nat.reduceAdd, Nat.reduceSub, Nat.reduceLeDiff, false_implies, true_implies, not_false_eq_true, not_true_eq_false, and_true]
    refine qF g1 I1 a1 ?_
    intro H Lg d nc ns J Q hJ hA hq
    obtain ⟨D, hD, hDk⟩ : ∃ D, d + (kr + 13) = D + 13 ∧ kr ≤ D := ⟨d + kr, by omega, by omega⟩
    rw [hD]
    try rw [hD] at hq
    refine mj_blk rfl ?_
    simp +decide only [mjs_0, mjs_1, mjs_2, mjs_3, mjs_ble, true_and, Bool.false_eq_true, if_false, if_true, Nat.reduceAdd, Nat.reduceSub, Nat.reduceLeDiff, false_implies, true_implies, not_false_eq_true, not_true_eq_false, and_true, mm_sh, hm, mjs_up_at, mjs_up_c, mjs_up_f]
    refine mj_blk rfl ?_
    simp +decide only [mjs_0, mjs_1, mjs_2, mjs_3, mjs_ble, true_and, Bool.false_eq_true, if_false, if_true, Nat.reduceAdd, Nat.reduceSub, Nat.reduceLeDiff, false_implies, true_implies, not_false_eq_true, not_true_eq_false, and_true, mm_sh, hm, mjs_up_at, mjs_up_c, mjs_up_f]
    refine a2 H Lg (D + 6) nc ns J _ hJ (fun J1 c1 => ?_)
    simp +decide only [mjs_0, mjs_1, mjs_2, mjs_3, mjs_ble, true_and, Bool.false_eq_true, if_false, if_true, Nat.reduceAdd, Nat.reduceSub, Nat.reduceLeDiff, false_implies, true_implies, not_false_eq_true, not_true_eq_false, and_true, mm_sh, hm, mjs_up_at, mjs_up_c, mjs_up_f]
    refine mj_blk rfl ?_
    simp +decide only [mjs_0, mjs_1, mjs_2, mjs_3, mjs_ble, true_and, Bool.false_eq_true, if_false, if_true, Nat.reduceAdd, Nat.reduceSub, Nat.reduceLeDiff, false_implies, true_implies, not_false_eq_true, not_true_eq_false, and_true, mm_sh, hm, mjs_up_at, mjs_up_c, mjs_up_f]
    exact hq J1 c1
theorem x_or (hR : mj_Rt mp_R Rf) (hM' : mj_Rt mm_R Rf) (hP : XP X Rf vb kc kr n) (hX : XD X Rf vb (kc + 1) (kr + 1) n) (hN : NU X Rf vb kc kr n) (hT : X.2.1[0]? = some mj_t1) {D : Nat} (hD : kc + 10 ≤ D) (hn : K.2.2 + n = 40) (hr' : nc + 1 ≤ X.2.2.1 ∧ ns + 6 ≤ X.2.2.2) (hv : gv (K, P, E, N, S, M, C, O, L)) (hw : gw K S) (hk0 : K.1 = k0 + 1) (hsv : S.2.2.2 ≤ k0) (h1 : 1 ≤ K.2.2) (hE1 : em_v (K.2.2 - 1) E) (hp : P.length ≤ 10000) (ht : tv N.2.2 t) (hp9 : P.length ≤ 9999) (h : RC fb vb (K, P, E, N, S, M, C, O, L) I)
    (hQ1 : ∀ fb' K' P' N' S' C' L' I', gv (K', P', E, N', S', M, C', O, L') → RC fb' vb (K', P', E, N', S', M, C', O, L') I' → P'.length ≤ 10060 → xr k0 K N S C L K' N' S' C' L' → RX X Rf (kr + 14) 134 [.ref 36, .int (nI (rt t)), .int (nI 16)] (K, P, E, N, S, M, C, O, L) na none (K', P', E, N', S', M, C', O, L') na → Q (.inl none) (sh59, I', Lg, Rf, nc, ns))
    (hQ3 : ∀ g' I', RCf fb vb g' I' → RY X Rf (kr + 14) 134 [.ref 36, .int (nI (rt t)), .int (nI 16)] (K, P, E, N, S, M, C, O, L) na none g' → Q (.inr 500) (sh59, I', Lg, Rf, nc + 1, ns + 6)) :
    mj_call X mj_P (mj_bi X) D 26 [.ref 28, .int (nI 17), .int (nI t)] (sh59, I, Lg, Rf, nc, ns) Q := by
  have hr := mc_rf hR
  have hm := mm_rf hM'
  obtain ⟨d, rfl⟩ : ∃ d, D = d + 10 := ⟨D - 10, by omega⟩
  have qF : ∀ g' I', RCf fb vb g' I' → RMf X Rf mb_134 (kr + 13) 0 [some (.ref 36), some (.int (nI (rt t))), some (.int (nI 16)), none, none, none, none] [] (K, P, E, N, S, M, C, O, L) na none g' → Q (.inr 500) (sh59, I', Lg, Rf, nc + 1, ns + 6) := fun g' I' a1 a2 => hQ3 g' I' a1 (ry_in (z := 7) (by decide) rfl rfl rfl a2)
  have qE : ∀ fb' K' P' N' S' C' L' I', gv (K', P', E, N', S', M, C', O, L') → RC fb' vb (K', P', E, N', S', M, C', O, L') I' → P'.length ≤ 10060 → xr k0 K N S C L K' N' S' C' L' → RMe X Rf mb_134 (kr + 13) 0 [some (.ref 36), some (.int (nI (rt t))), some (.int (nI 16)), none, none, none, none] [] (K, P, E, N, S, M, C, O, L) na none (K', P', E, N', S', M, C', O, L') na → Q (.inl none) (sh59, I', Lg, Rf, nc, ns) := fun fb' K' P' N' S' C' L' I' a1 a2 a3 a4 a5 => hQ1 fb' K' P' N' S' C' L' I' a1 a2 a3 a4 (rx_in (z := 7) (by decide) rfl rfl rfl a5)
  refine mj_enter (z := (5, [], mb_26)) (by decide) rfl rfl ?_
  refine mj_blk rfl ?_
  simp +decide only [mjs_0, mjs_1, mjs_2, mjs_3, mjs_ble, true_and, Bool.false_eq_true, if_false, if_true, Nat.reduceAdd, Nat.reduceSub, Nat.reduceLeDiff, false_implies, true_implies, not_false_eq_true, not_true_eq_false, and_true]
  refine mj_blk rfl ?_
  simp +decide only [mjs_0, mjs_1, mjs_2, mjs_3, mjs_ble, true_and, Bool.false_eq_true, if_false, if_true, Nat.reduceAdd, Nat.reduceSub, Nat.reduceLeDiff, false_implies, true_implies, not_false_eq_true, not_true_eq_false, and_true, mc_sh, hr, mjs_up_at, mjs_up_c, mjs_up_f]
  refine p_20 (p := 17) hR hM' hv h hp9 hr' (by decide) ht (fun P1 N1 C1 L1 I1 a1 a2 a3 a4 a5 a6 a7 => ?_) (fun g1 I1 a1 a2 => ?_)
  · simp +decide only [mjs_0, mjs_1, mjs_2, mjs_3, mjs_ble, true_and, Bool.false_eq_true, if_false, if_true, Nat.reduceAdd, Nat.reduceSub, Nat.reduceLeDiff, false_implies, true_implies, not_false_eq_true, not_true_eq_false, and_true]
    refine mj_blk rfl ?_
    simp +decide only [mjs_0, mjs_1, mjs_2, mjs_3, mjs_ble, true_and, Bool.false_eq_true, if_false, if_true, Nat.reduceAdd, Nat.reduceSub, Nat.reduceLeDiff, false_implies, true_implies, not_false_eq_true, not_true_eq_false, and_true]
    have hcx : cx C C1 := by
      rcases a6 with rfl | ⟨x1, x2, rfl⟩
      · exact cx_rf
      · intro j hj h0
        refine ⟨?_, h0, rfl⟩
        show j < C.1 - 1
        by_cases e : j = C.1 - 1
        · rw [e] at h0
          exact absurd h0 x2
        · omega
    refine qE fb K P1 N1 S C1 L1 I1 a1 a2 (by omega) ⟨a3, ⟨Nat.le_refl _, rfl⟩, a4, ⟨rfl, by show S.2.2.2 + k0 ≤ S.2.2.2 + K.1; omega, rfl, fun _ _ _ _ => rfl, fun _ _ => Or.inl rfl⟩, hcx⟩ ?_
    intro H Lg d nc ns J Q hJ hA hq
    obtain ⟨D, hD, hDk⟩ : ∃ D, d + (kr + 13) = D + 13 ∧ kr ≤ D := ⟨d + kr, by omega, by omega⟩
    rw [hD]
    try rw [hD] at hq
    refine mj_blk rfl ?_
    simp +decide only [mjs_0, mjs_1, mjs_2, mjs_3, mjs_ble, true_and, Bool.false_eq_true, if_false, if_true, Nat.reduceAdd, Nat.reduceSub, Nat.reduceLeDiff, false_implies, true_implies, not_false_eq_true, not_true_eq_false, and_true, mm_sh, hm, mjs_up_at, mjs_up_c, mjs_up_f]
    refine mj_blk rfl ?_
    simp +decide only [mjs_0, mjs_1, mjs_2, mjs_3, mjs_ble, true_and, Bool.false_eq_true, if_false, if_true, Nat.reduceAdd, Nat.reduceSub, Nat.reduceLeDiff, false_implies, true_implies, not_false_eq_true, not_true_eq_false, and_true, mm_sh, hm, mjs_up_at, mjs_up_c, mjs_up_f]
    refine a7 H Lg (D + 6) nc ns J _ hJ (fun J1 c1 => ?_)
    simp +decide only [mjs_0, mjs_1, mjs_2, mjs_3, mjs_ble, true_and, Bool.false_eq_true, if_false, if_true, Nat.reduceAdd, Nat.reduceSub, Nat.reduceLeDiff, false_implies, true_implies, not_false_eq_true, not_true_eq_false, and_true, mm_sh, hm, mjs_up_at, mjs_up_c, mjs_up_f]
    refine mj_blk rfl ?_
    simp +decide only [mjs_0, mjs_1, mjs_2, mjs_3, mjs_ble, true_and, Bool.false_eq_true, if_false, if_true, Nat.reduceAdd, Nat.reduceSub, Nat.reduceLeDiff, false_implies, true_implies, not_false_eq_true, not_true_eq_false, and_true, mm_sh, hm, mjs_up_at, mjs_up_c, mjs_up_f]
    exact hq H J1 hx_rf c1 trivial
  · simp +decide only [mjs_0, mjs_1, mjs_2, mjs_3, mjs_ble, true_and, Bool.false_eq_true, if_false, if_true, Nat.reduceAdd, Nat.reduceSub, Nat.reduceLeDiff, false_implies, true_implies, not_false_eq_true, not_true_eq_false, and_true]
    refine qF g1 I1 a1 ?_
    intro H Lg d nc ns J Q hJ hA hq
    obtain ⟨D, hD, hDk⟩ : ∃ D, d + (kr + 13) = D + 13 ∧ kr ≤ D := ⟨d + kr, by omega, by omega⟩
    rw [hD]
    try rw [hD] at hq
    refine mj_blk rfl ?_
    simp +decide only [mjs_0, mjs_1, mjs_2, mjs_3, mjs_ble, true_and, Bool.false_eq_true, if_false, if_true, Nat.reduceAdd, Nat.reduceSub, Nat.reduceLeDiff, false_implies, true_implies, not_false_eq_true, not_true_eq_false, and_true, mm_sh, hm, mjs_up_at, mjs_up_c, mjs_up_f]
    refine mj_blk rfl ?_
    simp +decide only [mjs_0, mjs_1, mjs_2, mjs_3, mjs_ble, true_and, Bool.false_eq_true, if_false, if_true, Nat.reduceAdd, Nat.reduceSub, Nat.reduceLeDiff, false_implies, true_implies, not_false_eq_true, not_true_eq_false, and_true, mm_sh, hm, mjs_up_at, mjs_up_c, mjs_up_f]
    refine a2 H Lg (D + 6) nc ns J _ hJ (fun J1 c1 => ?_)
    simp +decide only [mjs_0, mjs_1, mjs_2, mjs_3, mjs_ble, true_and, Bool.false_eq_true, if_false, if_true, Nat.reduceAdd, Nat.reduceSub, Nat.reduceLeDiff, false_implies, true_implies, not_false_eq_true, not_true_eq_false, and_true, mm_sh, hm, mjs_up_at, mjs_up_c, mjs_up_f]
    refine mj_blk rfl ?_
    simp +decide only [mjs_0, mjs_1, mjs_2, mjs_3, mjs_ble, true_and, Bool.false_eq_true, if_false, if_true, Nat.reduceAdd, Nat.reduceSub, Nat.reduceLeDiff, false_implies, true_implies, not_false_eq_true, not_true_eq_false, and_true, mm_sh, hm, mjs_up_at, mjs_up_c, mjs_up_f]
    exact hq J1 c1
theorem x_fi (hR : mj_Rt mp_R Rf) (hM' : mj_Rt mm_R Rf) (hP : XP X Rf vb kc kr n) (hX : XD X Rf vb (kc + 1) (kr + 1) n) (hN : NU X Rf vb kc kr n) (hT : X.2.1[0]? = some mj_t1) {D : Nat} (hD : kc + 10 ≤ D) (hn : K.2.2 + n = 40) (hr' : nc + 1 ≤ X.2.2.1 ∧ ns + 6 ≤ X.2.2.2) (hv : gv (K, P, E, N, S, M, C, O, L)) (hw : gw K S) (hk0 : K.1 = k0 + 1) (hsv : S.2.2.2 ≤ k0) (h1 : 1 ≤ K.2.2) (hE1 : em_v (K.2.2 - 1) E) (hp : P.length ≤ 10000) (ht : tv N.2.2 t) (hp9 : P.length ≤ 9999) (h : RC fb vb (K, P, E, N, S, M, C, O, L) I)
    (hQ1 : ∀ fb' K' P' N' S' C' L' I', gv (K', P', E, N', S', M, C', O, L') → RC fb' vb (K', P', E, N', S', M, C', O, L') I' → P'.length ≤ 10060 → xr k0 K N S C L K' N' S' C' L' → RX X Rf (kr + 14) 134 [.ref 36, .int (nI (rt t)), .int (nI 17)] (K, P, E, N, S, M, C, O, L) na none (K', P', E, N', S', M, C', O, L') na → Q (.inl none) (sh59, I', Lg, Rf, nc, ns))
    (hQ3 : ∀ g' I', RCf fb vb g' I' → RY X Rf (kr + 14) 134 [.ref 36, .int (nI (rt t)), .int (nI 17)] (K, P, E, N, S, M, C, O, L) na none g' → Q (.inr 500) (sh59, I', Lg, Rf, nc + 1, ns + 6)) :
    mj_call X mj_P (mj_bi X) D 26 [.ref 28, .int (nI 18), .int (nI t)] (sh59, I, Lg, Rf, nc, ns) Q := by
  have hr := mc_rf hR
  have hm := mm_rf hM'
  obtain ⟨d, rfl⟩ : ∃ d, D = d + 10 := ⟨D - 10, by omega⟩
  have qF : ∀ g' I', RCf fb vb g' I' → RMf X Rf mb_134 (kr + 13) 0 [some (.ref 36), some (.int (nI (rt t))), some (.int (nI 17)), none, none, none, none] [] (K, P, E, N, S, M, C, O, L) na none g' → Q (.inr 500) (sh59, I', Lg, Rf, nc + 1, ns + 6) := fun g' I' a1 a2 => hQ3 g' I' a1 (ry_in (z := 7) (by decide) rfl rfl rfl a2)
  have qE : ∀ fb' K' P' N' S' C' L' I', gv (K', P', E, N', S', M, C', O, L') → RC fb' vb (K', P', E, N', S', M, C', O, L') I' → P'.length ≤ 10060 → xr k0 K N S C L K' N' S' C' L' → RMe X Rf mb_134 (kr + 13) 0 [some (.ref 36), some (.int (nI (rt t))), some (.int (nI 17)), none, none, none, none] [] (K, P, E, N, S, M, C, O, L) na none (K', P', E, N', S', M, C', O, L') na → Q (.inl none) (sh59, I', Lg, Rf, nc, ns) := fun fb' K' P' N' S' C' L' I' a1 a2 a3 a4 a5 => hQ1 fb' K' P' N' S' C' L' I' a1 a2 a3 a4 (rx_in (z := 7) (by decide) rfl rfl rfl a5)
  refine mj_enter (z := (5, [], mb_26)) (by decide) rfl rfl ?_
  refine mj_blk rfl ?_
  simp +decide only [mjs_0, mjs_1, mjs_2, mjs_3, mjs_ble, true_and, Bool.false_eq_true, if_false, if_true, Nat.reduceAdd, Nat.reduceSub, Nat.reduceLeDiff, false_implies, true_implies, not_false_eq_true, not_true_eq_false, and_true]
  refine mj_blk rfl ?_
  simp +decide only [mjs_0, mjs_1, mjs_2, mjs_3, mjs_ble, true_and, Bool.false_eq_true, if_false, if_true, Nat.reduceAdd, Nat.reduceSub, Nat.reduceLeDiff, false_implies, true_implies, not_false_eq_true, not_true_eq_false, and_true, mc_sh, hr, mjs_up_at, mjs_up_c, mjs_up_f]
  refine p_20 (p := 18) hR hM' hv h hp9 hr' (by decide) ht (fun P1 N1 C1 L1 I1 a1 a2 a3 a4 a5 a6 a7 => ?_) (fun g1 I1 a1 a2 => ?_)
  · simp +decide only [mjs_0, mjs_1, mjs_2, mjs_3, mjs_ble, true_and, Bool.false_eq_true, if_false, if_true, Nat.reduceAdd, Nat.reduceSub, Nat.reduceLeDiff, false_implies, true_implies, not_false_eq_true, not_true_eq_false, and_true]
    refine mj_blk rfl ?_
    simp +decide only [mjs_0, mjs_1, mjs_2, mjs_3, mjs_ble, true_and, Bool.false_eq_true, if_false, if_true, Nat.reduceAdd, Nat.reduceSub, Nat.reduceLeDiff, false_implies, true_implies, not_false_eq_true, not_true_eq_false, and_true]
    have hcx : cx C C1 := by
      rcases a6 with rfl | ⟨x1, x2, rfl⟩
      · exact cx_rf
      · intro j hj h0
        refine ⟨?_, h0, rfl⟩
        show j < C.1 - 1
        by_cases e : j = C.1 - 1
        · rw [e] at h0
          exact absurd h0 x2
        · omega
    refine qE fb K P1 N1 S C1 L1 I1 a1 a2 (by omega) ⟨a3, ⟨Nat.le_refl _, rfl⟩, a4, ⟨rfl, by show S.2.2.2 + k0 ≤ S.2.2.2 + K.1; omega, rfl, fun _ _ _ _ => rfl, fun _ _ => Or.inl rfl⟩, hcx⟩ ?_
    intro H Lg d nc ns J Q hJ hA hq
    obtain ⟨D, hD, hDk⟩ : ∃ D, d + (kr + 13) = D + 13 ∧ kr ≤ D := ⟨d + kr, by omega, by omega⟩
    rw [hD]
    try rw [hD] at hq
    refine mj_blk rfl ?_
    simp +decide only [mjs_0, mjs_1, mjs_2, mjs_3, mjs_ble, true_and, Bool.false_eq_true, if_false, if_true, Nat.reduceAdd, Nat.reduceSub, Nat.reduceLeDiff, false_implies, true_implies, not_false_eq_true, not_true_eq_false, and_true, mm_sh, hm, mjs_up_at, mjs_up_c, mjs_up_f]
    refine mj_blk rfl ?_
    simp +decide only [mjs_0, mjs_1, mjs_2, mjs_3, mjs_ble, true_and, Bool.false_eq_true, if_false, if_true, Nat.reduceAdd, Nat.reduceSub, Nat.reduceLeDiff, false_implies, true_implies, not_false_eq_true, not_true_eq_false, and_true, mm_sh, hm, mjs_up_at, mjs_up_c, mjs_up_f]
    refine a7 H Lg (D + 6) nc ns J _ hJ (fun J1 c1 => ?_)
    simp +decide only [mjs_0, mjs_1, mjs_2, mjs_3, mjs_ble, true_and, Bool.false_eq_true, if_false, if_true, Nat.reduceAdd, Nat.reduceSub, Nat.reduceLeDiff, false_implies, true_implies, not_false_eq_true, not_true_eq_false, and_true, mm_sh, hm, mjs_up_at, mjs_up_c, mjs_up_f]
    refine mj_blk rfl ?_
    simp +decide only [mjs_0, mjs_1, mjs_2, mjs_3, mjs_ble, true_and, Bool.false_eq_true, if_false, if_true, Nat.reduceAdd, Nat.reduceSub, Nat.reduceLeDiff, false_implies, true_implies, not_false_eq_true, not_true_eq_false, and_true, mm_sh, hm, mjs_up_at, mjs_up_c, mjs_up_f]
    exact hq H J1 hx_rf c1 trivial
  · simp +decide only [mjs_0, mjs_1, mjs_2, mjs_3, mjs_ble, true_and, Bool.false_eq_true, if_false, if_true, Nat.reduceAdd, Nat.reduceSub, Nat.reduceLeDiff, false_implies, true_implies, not_false_eq_true, not_true_eq_false, and_true]
    refine qF g1 I1 a1 ?_
    intro H Lg d nc ns J Q hJ hA hq
    obtain ⟨D, hD, hDk⟩ : ∃ D, d + (kr + 13) = D + 13 ∧ kr ≤ D := ⟨d + kr, by omega, by omega⟩
    rw [hD]
    try rw [hD] at hq
    refine mj_blk rfl ?_
    simp +decide only [mjs_0, mjs_1, mjs_2, mjs_3, mjs_ble, true_and, Bool.false_eq_true, if_false, if_true, Nat.reduceAdd, Nat.reduceSub, Nat.reduceLeDiff, false_implies, true_implies, not_false_eq_true, not_true_eq_false, and_true, mm_sh, hm, mjs_up_at, mjs_up_c, mjs_up_f]
    refine mj_blk rfl ?_
    simp +decide only [mjs_0, mjs_1, mjs_2, mjs_3, mjs_ble, true_and, Bool.false_eq_true, if_false, if_true, Nat.reduceAdd, Nat.reduceSub, Nat.reduceLeDiff, false_implies, true_implies, not_false_eq_true, not_true_eq_false, and_true, mm_sh, hm, mjs_up_at, mjs_up_c, mjs_up_f]
    refine a2 H Lg (D + 6) nc ns J _ hJ (fun J1 c1 => ?_)
    simp +decide only [mjs_0, mjs_1, mjs_2, mjs_3, mjs_ble, true_and, Bool.false_eq_true, if_false, if_true, Nat.reduceAdd, Nat.reduceSub, Nat.reduceLeDiff, false_implies, true_implies, not_false_eq_true, not_true_eq_false, and_true, mm_sh, hm, mjs_up_at, mjs_up_c, mjs_up_f]
    refine mj_blk rfl ?_
    simp +decide only [mjs_0, mjs_1, mjs_2, mjs_3, mjs_ble, true_and, Bool.false_eq_true, if_false, if_true, Nat.reduceAdd, Nat.reduceSub, Nat.reduceLeDiff, false_implies, true_implies, not_false_eq_true, not_true_eq_false, and_true, mm_sh, hm, mjs_up_at, mjs_up_c, mjs_up_f]
    exact hq J1 c1
theorem x_cond8 (hR : mj_Rt mp_R Rf) (hM' : mj_Rt mm_R Rf) (hP : XP X Rf vb kc kr n) (hX : XD X Rf vb (kc + 1) (kr + 1) n) (hN : NU X Rf vb kc kr n) (hT : X.2.1[0]? = some mj_t1) {D : Nat} (hD : kc + 10 ≤ D) (hn : K.2.2 + n = 40) (hr' : nc + 1 ≤ X.2.2.1 ∧ ns + 6 ≤ X.2.2.2) (hv : gv (K, P, E, N, S, M, C, O, L)) (hw : gw K S) (hk0 : K.1 = k0 + 1) (hsv : S.2.2.2 ≤ k0) (h1 : 1 ≤ K.2.2) (hE1 : em_v (K.2.2 - 1) E) (hp : P.length ≤ 10000) (h : RC fb vb (K, P, E, N, S, M, C, O, L) I)
    (hQ1 : ∀ fb' K' P' N' S' C' L' I', gv (K', P', E, N', S', M, C', O, L') → RC fb' vb (K', P', E, N', S', M, C', O, L') I' → P'.length ≤ 10060 → xr k0 K N S C L K' N' S' C' L' → RX X Rf (kr + 14) 134 [.ref 36, .int (nI (rt t)), .int (nI 7)] (K, P, E, N, S, M, C, O, L) na none (K', P', E, N', S', M, C', O, L') na → Q (.inl none) (sh59, I', Lg, Rf, nc, ns))
    (hQ3 : ∀ g' I', RCf fb vb g' I' → RY X Rf (kr + 14) 134 [.ref 36, .int (nI (rt t)), .int (nI 7)] (K, P, E, N, S, M, C, O, L) na none g' → Q (.inr 500) (sh59, I', Lg, Rf, nc + 1, ns + 6)) :
    mj_call X mj_P (mj_bi X) D 26 [.ref 28, .int (nI 8), .int (nI t)] (sh59, I, Lg, Rf, nc, ns) Q := by
  have hr := mc_rf hR
  have hm := mm_rf hM'
  obtain ⟨d, rfl⟩ : ∃ d, D = d + 10 := ⟨D - 10, by omega⟩
  have qF : ∀ g' I', RCf fb vb g' I' → RMf X Rf mb_134 (kr + 13) 0 [some (.ref 36), some (.int (nI (rt t))), some (.int (nI 7)), none, none, none, none] [] (K, P, E, N, S, M, C, O, L) na none g' → Q (.inr 500) (sh59, I', Lg, Rf, nc + 1, ns + 6) := fun g' I' a1 a2 => hQ3 g' I' a1 (ry_in (z := 7) (by decide) rfl rfl rfl a2)
  have qE : ∀ fb' K' P' N' S' C' L' I', gv (K', P', E, N', S', M, C', O, L') → RC fb' vb (K', P', E, N', S', M, C', O, L') I' → P'.length ≤ 10060 → xr k0 K N S C L K' N' S' C' L' → RMe X Rf mb_134 (kr + 13) 0 [some (.ref 36), some (.int (nI (rt t))), some (.int (nI 7)), none, none, none, none] [] (K, P, E, N, S, M, C, O, L) na none (K', P', E, N', S', M, C', O, L') na → Q (.inl none) (sh59, I', Lg, Rf, nc, ns) := fun fb' K' P' N' S' C' L' I' a1 a2 a3 a4 a5 => hQ1 fb' K' P' N' S' C' L' I' a1 a2 a3 a4 (rx_in (z := 7) (by decide) rfl rfl rfl a5)
  have hN' : NU X Rf vb (kc + 1) (kr + 1) n := nu_mono hN (by omega) (by omega)
  refine mj_enter (z := (5, [], mb_26)) (by decide) rfl rfl ?_
  refine mj_blk rfl ?_
  simp +decide only [mjs_0, mjs_1, mjs_2, mjs_3, mjs_ble, true_and, Bool.false_eq_true, if_false, if_true, Nat.reduceAdd, Nat.reduceSub, Nat.reduceLeDiff, false_implies, true_implies, not_false_eq_true, not_true_eq_false, and_true]
  refine mj_nv (p_cond (code := 8) (d := d + 1) hR hM' hX hN' (by decide) (by omega) hn hr' hv hw hp h (fun fb1 K1 P1 N1 S1 C1 L1 I1 a1 a2 a3 a4 a5 => ?_) (fun g1 I1 a1 a2 => ?_))
  · refine qE fb1 K1 P1 N1 S1 C1 L1 I1 a1 a2 (by omega) (xr_of (by omega) a4) ?_
    intro H Lg d nc ns J Q hJ hA hq
    obtain ⟨D, hD, hDk⟩ : ∃ D, d + (kr + 13) = D + 13 ∧ kr ≤ D := ⟨d + kr, by omega, by omega⟩
    rw [hD]
    try rw [hD] at hq
    refine mj_blk rfl ?_
    simp +decide only [mjs_0, mjs_1, mjs_2, mjs_3, mjs_ble, true_and, Bool.false_eq_true, if_false, if_true, Nat.reduceAdd, Nat.reduceSub, Nat.reduceLeDiff, false_implies, true_implies, not_false_eq_true, not_true_eq_false, and_true, mm_sh, hm, mjs_up_at, mjs_up_c, mjs_up_f]
    refine mj_blk rfl ?_
    simp +decide only [mjs_0, mjs_1, mjs_2, mjs_3, mjs_ble, true_and, Bool.false_eq_true, if_false, if_true, Nat.reduceAdd, Nat.reduceSub, Nat.reduceLeDiff, false_implies, true_implies, not_false_eq_true, not_true_eq_false, and_true, mm_sh, hm, mjs_up_at, mjs_up_c, mjs_up_f]
    refine rx_at a5 (by omega) hJ trivial (fun H1 J1 c1 c2 _ => ?_)
    simp +decide only [mjs_0, mjs_1, mjs_2, mjs_3, mjs_ble, true_and, Bool.false_eq_true, if_false, if_true, Nat.reduceAdd, Nat.reduceSub, Nat.reduceLeDiff, false_implies, true_implies, not_false_eq_true, not_true_eq_false, and_true, mm_sh, hm, mjs_up_at, mjs_up_c, mjs_up_f]
    refine mj_blk rfl ?_
    simp +decide only [mjs_0, mjs_1, mjs_2, mjs_3, mjs_ble, true_and, Bool.false_eq_true, if_false, if_true, Nat.reduceAdd, Nat.reduceSub, Nat.reduceLeDiff, false_implies, true_implies, not_false_eq_true, not_true_eq_false, and_true, mm_sh, hm, mjs_up_at, mjs_up_c, mjs_up_f]
    exact hq H1 J1 c1 c2 trivial
  · refine qF g1 I1 a1 ?_
    intro H Lg d nc ns J Q hJ hA hq
    obtain ⟨D, hD, hDk⟩ : ∃ D, d + (kr + 13) = D + 13 ∧ kr ≤ D := ⟨d + kr, by omega, by omega⟩
    rw [hD]
    try rw [hD] at hq
    refine mj_blk rfl ?_
    simp +decide only [mjs_0, mjs_1, mjs_2, mjs_3, mjs_ble, true_and, Bool.false_eq_true, if_false, if_true, Nat.reduceAdd, Nat.reduceSub, Nat.reduceLeDiff, false_implies, true_implies, not_false_eq_true, not_true_eq_false, and_true, mm_sh, hm, mjs_up_at, mjs_up_c, mjs_up_f]
    refine mj_blk rfl ?_
    simp +decide only [mjs_0, mjs_1, mjs_2, mjs_3, mjs_ble, true_and, Bool.false_eq_true, if_false, if_true, Nat.reduceAdd, Nat.reduceSub, Nat.reduceLeDiff, false_implies, true_implies, not_false_eq_true, not_true_eq_false, and_true, mm_sh, hm, mjs_up_at, mjs_up_c, mjs_up_f]
    refine ry_at a2 (by omega) hJ trivial (fun J1 c1 => ?_)
    simp +decide only [mjs_0, mjs_1, mjs_2, mjs_3, mjs_ble, true_and, Bool.false_eq_true, if_false, if_true, Nat.reduceAdd, Nat.reduceSub, Nat.reduceLeDiff, false_implies, true_implies, not_false_eq_true, not_true_eq_false, and_true, mm_sh, hm, mjs_up_at, mjs_up_c, mjs_up_f]
    refine mj_blk rfl ?_
    simp +decide only [mjs_0, mjs_1, mjs_2, mjs_3, mjs_ble, true_and, Bool.false_eq_true, if_false, if_true, Nat.reduceAdd, Nat.reduceSub, Nat.reduceLeDiff, false_implies, true_implies, not_false_eq_true, not_true_eq_false, and_true, mm_sh, hm, mjs_up_at, mjs_up_c, mjs_up_f]
    exact hq J1 c1
theorem x_cond9 (hR : mj_Rt mp_R Rf) (hM' : mj_Rt mm_R Rf) (hP : XP X Rf vb kc kr n) (hX : XD X Rf vb (kc + 1) (kr + 1) n) (hN : NU X Rf vb kc kr n) (hT : X.2.1[0]? = some mj_t1) {D : Nat} (hD : kc + 10 ≤ D) (hn : K.2.2 + n = 40) (hr' : nc + 1 ≤ X.2.2.1 ∧ ns + 6 ≤ X.2.2.2) (hv : gv (K, P, E, N, S, M, C, O, L)) (hw : gw K S) (hk0 : K.1 = k0 + 1) (hsv : S.2.2.2 ≤ k0) (h1 : 1 ≤ K.2.2) (hE1 : em_v (K.2.2 - 1) E) (hp : P.length ≤ 10000) (h : RC fb vb (K, P, E, N, S, M, C, O, L) I)
    (hQ1 : ∀ fb' K' P' N' S' C' L' I', gv (K', P', E, N', S', M, C', O, L') → RC fb' vb (K', P', E, N', S', M, C', O, L') I' → P'.length ≤ 10060 → xr k0 K N S C L K' N' S' C' L' → RX X Rf (kr + 14) 134 [.ref 36, .int (nI (rt t)), .int (nI 8)] (K, P, E, N, S, M, C, O, L) na none (K', P', E, N', S', M, C', O, L') na → Q (.inl none) (sh59, I', Lg, Rf, nc, ns))
    (hQ3 : ∀ g' I', RCf fb vb g' I' → RY X Rf (kr + 14) 134 [.ref 36, .int (nI (rt t)), .int (nI 8)] (K, P, E, N, S, M, C, O, L) na none g' → Q (.inr 500) (sh59, I', Lg, Rf, nc + 1, ns + 6)) :
    mj_call X mj_P (mj_bi X) D 26 [.ref 28, .int (nI 9), .int (nI t)] (sh59, I, Lg, Rf, nc, ns) Q := by
  have hr := mc_rf hR
  have hm := mm_rf hM'
  obtain ⟨d, rfl⟩ : ∃ d, D = d + 10 := ⟨D - 10, by omega⟩
  have qF : ∀ g' I', RCf fb vb g' I' → RMf X Rf mb_134 (kr + 13) 0 [some (.ref 36), some (.int (nI (rt t))), some (.int (nI 8)), none, none, none, none] [] (K, P, E, N, S, M, C, O, L) na none g' → Q (.inr 500) (sh59, I', Lg, Rf, nc + 1, ns + 6) := fun g' I' a1 a2 => hQ3 g' I' a1 (ry_in (z := 7) (by decide) rfl rfl rfl a2)
  have qE : ∀ fb' K' P' N' S' C' L' I', gv (K', P', E, N', S', M, C', O, L') → RC fb' vb (K', P', E, N', S', M, C', O, L') I' → P'.length ≤ 10060 → xr k0 K N S C L K' N' S' C' L' → RMe X Rf mb_134 (kr + 13) 0 [some (.ref 36), some (.int (nI (rt t))), some (.int (nI 8)), none, none, none, none] [] (K, P, E, N, S, M, C, O, L) na none (K', P', E, N', S', M, C', O, L') na → Q (.inl none) (sh59, I', Lg, Rf, nc, ns) := fun fb' K' P' N' S' C' L' I' a1 a2 a3 a4 a5 => hQ1 fb' K' P' N' S' C' L' I' a1 a2 a3 a4 (rx_in (z := 7) (by decide) rfl rfl rfl a5)
  have hN' : NU X Rf vb (kc + 1) (kr + 1) n := nu_mono hN (by omega) (by omega)
  refine mj_enter (z := (5, [], mb_26)) (by decide) rfl rfl ?_
  refine mj_blk rfl ?_
  simp +decide only [mjs_0, mjs_1, mjs_2, mjs_3, mjs_ble, true_and, Bool.false_eq_true, if_false, if_true, Nat.reduceAdd, Nat.reduceSub, Nat.reduceLeDiff, false_implies, true_implies, not_false_eq_true, not_true_eq_false, and_true]
  refine mj_nv (p_cond (code := 9) (d := d + 1) hR hM' hX hN' (by decide) (by omega) hn hr' hv hw hp h (fun fb1 K1 P1 N1 S1 C1 L1 I1 a1 a2 a3 a4 a5 => ?_) (fun g1 I1 a1 a2 => ?_))
  · refine qE fb1 K1 P1 N1 S1 C1 L1 I1 a1 a2 (by omega) (xr_of (by omega) a4) ?_
    intro H Lg d nc ns J Q hJ hA hq
    obtain ⟨D, hD, hDk⟩ : ∃ D, d + (kr + 13) = D + 13 ∧ kr ≤ D := ⟨d + kr, by omega, by omega⟩
    rw [hD]
    try rw [hD] at hq
    refine mj_blk rfl ?_
    simp +decide only [mjs_0, mjs_1, mjs_2, mjs_3, mjs_ble, true_and, Bool.false_eq_true, if_false, if_true, Nat.reduceAdd, Nat.reduceSub, Nat.reduceLeDiff, false_implies, true_implies, not_false_eq_true, not_true_eq_false, and_true, mm_sh, hm, mjs_up_at, mjs_up_c, mjs_up_f]
    refine mj_blk rfl ?_
    simp +decide only [mjs_0, mjs_1, mjs_2, mjs_3, mjs_ble, true_and, Bool.false_eq_true, if_false, if_true, Nat.reduceAdd, Nat.reduceSub, Nat.reduceLeDiff, false_implies, true_implies, not_false_eq_true, not_true_eq_false, and_true, mm_sh, hm, mjs_up_at, mjs_up_c, mjs_up_f]
    refine rx_at a5 (by omega) hJ trivial (fun H1 J1 c1 c2 _ => ?_)
    simp +decide only [mjs_0, mjs_1, mjs_2, mjs_3, mjs_ble, true_and, Bool.false_eq_true, if_false, if_true, Nat.reduceAdd, Nat.reduceSub, Nat.reduceLeDiff, false_implies, true_implies, not_false_eq_true, not_true_eq_false, and_true, mm_sh, hm, mjs_up_at, mjs_up_c, mjs_up_f]
    refine mj_blk rfl ?_
    simp +decide only [mjs_0, mjs_1, mjs_2, mjs_3, mjs_ble, true_and, Bool.false_eq_true, if_false, if_true, Nat.reduceAdd, Nat.reduceSub, Nat.reduceLeDiff, false_implies, true_implies, not_false_eq_true, not_true_eq_false, and_true, mm_sh, hm, mjs_up_at, mjs_up_c, mjs_up_f]
    exact hq H1 J1 c1 c2 trivial
  · refine qF g1 I1 a1 ?_
    intro H Lg d nc ns J Q hJ hA hq
    obtain ⟨D, hD, hDk⟩ : ∃ D, d + (kr + 13) = D + 13 ∧ kr ≤ D := ⟨d + kr, by omega, by omega⟩
    rw [hD]
    try rw [hD] at hq
    refine mj_blk rfl ?_
    simp +decide only [mjs_0, mjs_1, mjs_2, mjs_3, mjs_ble, true_and, Bool.false_eq_true, if_false, if_true, Nat.reduceAdd, Nat.reduceSub, Nat.reduceLeDiff, false_implies, true_implies, not_false_eq_true, not_true_eq_false, and_true, mm_sh, hm, mjs_up_at, mjs_up_c, mjs_up_f]
    refine mj_blk rfl ?_
    simp +decide only [mjs_0, mjs_1, mjs_2, mjs_3, mjs_ble, true_and, Bool.false_eq_true, if_false, if_true, Nat.reduceAdd, Nat.reduceSub, Nat.reduceLeDiff, false_implies, true_implies, not_false_eq_true, not_true_eq_false, and_true, mm_sh, hm, mjs_up_at, mjs_up_c, mjs_up_f]
    refine ry_at a2 (by omega) hJ trivial (fun J1 c1 => ?_)
    simp +decide only [mjs_0, mjs_1, mjs_2, mjs_3, mjs_ble, true_and, Bool.false_eq_true, if_false, if_true, Nat.reduceAdd, Nat.reduceSub, Nat.reduceLeDiff, false_implies, true_implies, not_false_eq_true, not_true_eq_false, and_true, mm_sh, hm, mjs_up_at, mjs_up_c, mjs_up_f]
    refine mj_blk rfl ?_
    simp +decide only [mjs_0, mjs_1, mjs_2, mjs_3, mjs_ble, true_and, Bool.false_eq_true, if_false, if_true, Nat.reduceAdd, Nat.reduceSub, Nat.reduceLeDiff, false_implies, true_implies, not_false_eq_true, not_true_eq_false, and_true, mm_sh, hm, mjs_up_at, mjs_up_c, mjs_up_f]
    exact hq J1 c1
theorem x_cond10 (hR : mj_Rt mp_R Rf) (hM' : mj_Rt mm_R Rf) (hP : XP X Rf vb kc kr n) (hX : XD X Rf vb (kc + 1) (kr + 1) n) (hN : NU X Rf vb kc kr n) (hT : X.2.1[0]? = some mj_t1) {D : Nat} (hD : kc + 10 ≤ D) (hn : K.2.2 + n = 40) (hr' : nc + 1 ≤ X.2.2.1 ∧ ns + 6 ≤ X.2.2.2) (hv : gv (K, P, E, N, S, M, C, O, L)) (hw : gw K S) (hk0 : K.1 = k0 + 1) (hsv : S.2.2.2 ≤ k0) (h1 : 1 ≤ K.2.2) (hE1 : em_v (K.2.2 - 1) E) (hp : P.length ≤ 10000) (h : RC fb vb (K, P, E, N, S, M, C, O, L) I)
    (hQ1 : ∀ fb' K' P' N' S' C' L' I', gv (K', P', E, N', S', M, C', O, L') → RC fb' vb (K', P', E, N', S', M, C', O, L') I' → P'.length ≤ 10060 → xr k0 K N S C L K' N' S' C' L' → RX X Rf (kr + 14) 134 [.ref 36, .int (nI (rt t)), .int (nI 9)] (K, P, E, N, S, M, C, O, L) na none (K', P', E, N', S', M, C', O, L') na → Q (.inl none) (sh59, I', Lg, Rf, nc, ns))
    (hQ3 : ∀ g' I', RCf fb vb g' I' → RY X Rf (kr + 14) 134 [.ref 36, .int (nI (rt t)), .int (nI 9)] (K, P, E, N, S, M, C, O, L) na none g' → Q (.inr 500) (sh59, I', Lg, Rf, nc + 1, ns + 6)) :
    mj_call X mj_P (mj_bi X) D 26 [.ref 28, .int (nI 10), .int (nI t)] (sh59, I, Lg, Rf, nc, ns) Q := by
  have hr := mc_rf hR
  have hm := mm_rf hM'
  obtain ⟨d, rfl⟩ : ∃ d, D = d + 10 := ⟨D - 10, by omega⟩
  have qF : ∀ g' I', RCf fb vb g' I' → RMf X Rf mb_134 (kr + 13) 0 [some (.ref 36), some (.int (nI (rt t))), some (.int (nI 9)), none, none, none, none] [] (K, P, E, N, S, M, C, O, L) na none g' → Q (.inr 500) (sh59, I', Lg, Rf, nc + 1, ns + 6) := fun g' I' a1 a2 => hQ3 g' I' a1 (ry_in (z := 7) (by decide) rfl rfl rfl a2)
  have qE : ∀ fb' K' P' N' S' C' L' I', gv (K', P', E, N', S', M, C', O, L') → RC fb' vb (K', P', E, N', S', M, C', O, L') I' → P'.length ≤ 10060 → xr k0 K N S C L K' N' S' C' L' → RMe X Rf mb_134 (kr + 13) 0 [some (.ref 36), some (.int (nI (rt t))), some (.int (nI 9)), none, none, none, none] [] (K, P, E, N, S, M, C, O, L) na none (K', P', E, N', S', M, C', O, L') na → Q (.inl none) (sh59, I', Lg, Rf, nc, ns) := fun fb' K' P' N' S' C' L' I' a1 a2 a3 a4 a5 => hQ1 fb' K' P' N' S' C' L' I' a1 a2 a3 a4 (rx_in (z := 7) (by decide) rfl rfl rfl a5)
  have hN' : NU X Rf vb (kc + 1) (kr + 1) n := nu_mono hN (by omega) (by omega)
  refine mj_enter (z := (5, [], mb_26)) (by decide) rfl rfl ?_
  refine mj_blk rfl ?_
  simp +decide only [mjs_0, mjs_1, mjs_2, mjs_3, mjs_ble, true_and, Bool.false_eq_true, if_false, if_true, Nat.reduceAdd, Nat.reduceSub, Nat.reduceLeDiff, false_implies, true_implies, not_false_eq_true, not_true_eq_false, and_true]
  refine mj_nv (p_cond (code := 10) (d := d + 1) hR hM' hX hN' (by decide) (by omega) hn hr' hv hw hp h (fun fb1 K1 P1 N1 S1 C1 L1 I1 a1 a2 a3 a4 a5 => ?_) (fun g1 I1 a1 a2 => ?_))
  · refine qE fb1 K1 P1 N1 S1 C1 L1 I1 a1 a2 (by omega) (xr_of (by omega) a4) ?_
    intro H Lg d nc ns J Q hJ hA hq
    obtain ⟨D, hD, hDk⟩ : ∃ D, d + (kr + 13) = D + 13 ∧ kr ≤ D := ⟨d + kr, by omega, by omega⟩
    rw [hD]
    try rw [hD] at hq
    refine mj_blk rfl ?_
    simp +decide only [mjs_0, mjs_1, mjs_2, mjs_3, mjs_ble, true_and, Bool.false_eq_true, if_false, if_true, Nat.reduceAdd, Nat.reduceSub, Nat.reduceLeDiff, false_implies, true_implies, not_false_eq_true, not_true_eq_false, and_true, mm_sh, hm, mjs_up_at, mjs_up_c, mjs_up_f]
    refine mj_blk rfl ?_
    simp +decide only [mjs_0, mjs_1, mjs_2, mjs_3, mjs_ble, true_and, Bool.false_eq_true, if_false, if_true, Nat.reduceAdd, Nat.reduceSub, Nat.reduceLeDiff, false_implies, true_implies, not_false_eq_true, not_true_eq_false, and_true, mm_sh, hm, mjs_up_at, mjs_up_c, mjs_up_f]
    refine rx_at a5 (by omega) hJ trivial (fun H1 J1 c1 c2 _ => ?_)
    simp +decide only [mjs_0, mjs_1, mjs_2, mjs_3, mjs_ble, true_and, Bool.false_eq_true, if_false, if_true, Nat.reduceAdd, Nat.reduceSub, Nat.reduceLeDiff, false_implies, true_implies, not_false_eq_true, not_true_eq_false, and_true, mm_sh, hm, mjs_up_at, mjs_up_c, mjs_up_f]
    refine mj_blk rfl ?_
    simp +decide only [mjs_0, mjs_1, mjs_2, mjs_3, mjs_ble, true_and, Bool.false_eq_true, if_false, if_true, Nat.reduceAdd, Nat.reduceSub, Nat.reduceLeDiff, false_implies, true_implies, not_false_eq_true, not_true_eq_false, and_true, mm_sh, hm, mjs_up_at, mjs_up_c, mjs_up_f]
    exact hq H1 J1 c1 c2 trivial
  · refine qF g1 I1 a1 ?_
    intro H Lg d nc ns J Q hJ hA hq
    obtain ⟨D, hD, hDk⟩ : ∃ D, d + (kr + 13) = D + 13 ∧ kr ≤ D := ⟨d + kr, by omega, by omega⟩
    rw [hD]
    try rw [hD] at hq
    refine mj_blk rfl ?_
    simp +decide only [mjs_0, mjs_1, mjs_2, mjs_3, mjs_ble, true_and, Bool.false_eq_true, if_false, if_true, Nat.reduceAdd, Nat.reduceSub, Nat.reduceLeDiff, false_implies, true_implies, not_false_eq_true, not_true_eq_false, and_true, mm_sh, hm, mjs_up_at, mjs_up_c, mjs_up_f]
    refine mj_blk rfl ?_
    simp +decide only [mjs_0, mjs_1, mjs_2, mjs_3, mjs_ble, true_and, Bool.false_eq_true, if_false, if_true, Nat.reduceAdd, Nat.reduceSub, Nat.reduceLeDiff, false_implies, true_implies, not_false_eq_true, not_true_eq_false, and_true, mm_sh, hm, mjs_up_at, mjs_up_c, mjs_up_f]
    refine ry_at a2 (by omega) hJ trivial (fun J1 c1 => ?_)
    simp +decide only [mjs_0, mjs_1, mjs_2, mjs_3, mjs_ble, true_and, Bool.false_eq_true, if_false, if_true, Nat.reduceAdd, Nat.reduceSub, Nat.reduceLeDiff, false_implies, true_implies, not_false_eq_true, not_true_eq_false, and_true, mm_sh, hm, mjs_up_at, mjs_up_c, mjs_up_f]
    refine mj_blk rfl ?_
    simp +decide only [mjs_0, mjs_1, mjs_2, mjs_3, mjs_ble, true_and, Bool.false_eq_true, if_false, if_true, Nat.reduceAdd, Nat.reduceSub, Nat.reduceLeDiff, false_implies, true_implies, not_false_eq_true, not_true_eq_false, and_true, mm_sh, hm, mjs_up_at, mjs_up_c, mjs_up_f]
    exact hq J1 c1
theorem x_cond11 (hR : mj_Rt mp_R Rf) (hM' : mj_Rt mm_R Rf) (hP : XP X Rf vb kc kr n) (hX : XD X Rf vb (kc + 1) (kr + 1) n) (hN : NU X Rf vb kc kr n) (hT : X.2.1[0]? = some mj_t1) {D : Nat} (hD : kc + 10 ≤ D) (hn : K.2.2 + n = 40) (hr' : nc + 1 ≤ X.2.2.1 ∧ ns + 6 ≤ X.2.2.2) (hv : gv (K, P, E, N, S, M, C, O, L)) (hw : gw K S) (hk0 : K.1 = k0 + 1) (hsv : S.2.2.2 ≤ k0) (h1 : 1 ≤ K.2.2) (hE1 : em_v (K.2.2 - 1) E) (hp : P.length ≤ 10000) (h : RC fb vb (K, P, E, N, S, M, C, O, L) I)
    (hQ1 : ∀ fb' K' P' N' S' C' L' I', gv (K', P', E, N', S', M, C', O, L') → RC fb' vb (K', P', E, N', S', M, C', O, L') I' → P'.length ≤ 10060 → xr k0 K N S C L K' N' S' C' L' → RX X Rf (kr + 14) 134 [.ref 36, .int (nI (rt t)), .int (nI 10)] (K, P, E, N, S, M, C, O, L) na none (K', P', E, N', S', M, C', O, L') na → Q (.inl none) (sh59, I', Lg, Rf, nc, ns))
    (hQ3 : ∀ g' I', RCf fb vb g' I' → RY X Rf (kr + 14) 134 [.ref 36, .int (nI (rt t)), .int (nI 10)] (K, P, E, N, S, M, C, O, L) na none g' → Q (.inr 500) (sh59, I', Lg, Rf, nc + 1, ns + 6)) :
    mj_call X mj_P (mj_bi X) D 26 [.ref 28, .int (nI 11), .int (nI t)] (sh59, I, Lg, Rf, nc, ns) Q := by
  have hr := mc_rf hR
  have hm := mm_rf hM'
  obtain ⟨d, rfl⟩ : ∃ d, D = d + 10 := ⟨D - 10, by omega⟩
  have qF : ∀ g' I', RCf fb vb g' I' → RMf X Rf mb_134 (kr + 13) 0 [some (.ref 36), some (.int (nI (rt t))), some (.int (nI 10)), none, none, none, none] [] (K, P, E, N, S, M, C, O, L) na none g' → Q (.inr 500) (sh59, I', Lg, Rf, nc + 1, ns + 6) := fun g' I' a1 a2 => hQ3 g' I' a1 (ry_in (z := 7) (by decide) rfl rfl rfl a2)
  have qE : ∀ fb' K' P' N' S' C' L' I', gv (K', P', E, N', S', M, C', O, L') → RC fb' vb (K', P', E, N', S', M, C', O, L') I' → P'.length ≤ 10060 → xr k0 K N S C L K' N' S' C' L' → RMe X Rf mb_134 (kr + 13) 0 [some (.ref 36), some (.int (nI (rt t))), some (.int (nI 10)), none, none, none, none] [] (K, P, E, N, S, M, C, O, L) na none (K', P', E, N', S', M, C', O, L') na → Q (.inl none) (sh59, I', Lg, Rf, nc, ns) := fun fb' K' P' N' S' C' L' I' a1 a2 a3 a4 a5 => hQ1 fb' K' P' N' S' C' L' I' a1 a2 a3 a4 (rx_in (z := 7) (by decide) rfl rfl rfl a5)
  have hN' : NU X Rf vb (kc + 1) (kr + 1) n := nu_mono hN (by omega) (by omega)
  refine mj_enter (z := (5, [], mb_26)) (by decide) rfl rfl ?_
  refine mj_blk rfl ?_
  simp +decide only [mjs_0, mjs_1, mjs_2, mjs_3, mjs_ble, true_and, Bool.false_eq_true, if_false, if_true, Nat.reduceAdd, Nat.reduceSub, Nat.reduceLeDiff, false_implies, true_implies, not_false_eq_true, not_true_eq_false, and_true]
  refine mj_nv (p_cond (code := 11) (d := d + 1) hR hM' hX hN' (by decide) (by omega) hn hr' hv hw hp h (fun fb1 K1 P1 N1 S1 C1 L1 I1 a1 a2 a3 a4 a5 => ?_) (fun g1 I1 a1 a2 => ?_))
  · refine qE fb1 K1 P1 N1 S1 C1 L1 I1 a1 a2 (by omega) (xr_of (by omega) a4) ?_
    intro H Lg d nc ns J Q hJ hA hq
    obtain ⟨D, hD, hDk⟩ : ∃ D, d + (kr + 13) = D + 13 ∧ kr ≤ D := ⟨d + kr, by omega, by omega⟩
    rw [hD]
    try rw [hD] at hq
    refine mj_blk rfl ?_
    simp +decide only [mjs_0, mjs_1, mjs_2, mjs_3, mjs_ble, true_and, Bool.false_eq_true, if_false, if_true, Nat.reduceAdd, Nat.reduceSub, Nat.reduceLeDiff, false_implies, true_implies, not_false_eq_true, not_true_eq_false, and_true, mm_sh, hm, mjs_up_at, mjs_up_c, mjs_up_f]
    refine mj_blk rfl ?_
    simp +decide only [mjs_0, mjs_1, mjs_2, mjs_3, mjs_ble, true_and, Bool.false_eq_true, if_false, if_true, Nat.reduceAdd, Nat.reduceSub, Nat.reduceLeDiff, false_implies, true_implies, not_false_eq_true, not_true_eq_false, and_true, mm_sh, hm, mjs_up_at, mjs_up_c, mjs_up_f]
    refine rx_at a5 (by omega) hJ trivial (fun H1 J1 c1 c2 _ => ?_)
    simp +decide only [mjs_0, mjs_1, mjs_2, mjs_3, mjs_ble, true_and, Bool.false_eq_true, if_false, if_true, Nat.reduceAdd, Nat.reduceSub, Nat.reduceLeDiff, false_implies, true_implies, not_false_eq_true, not_true_eq_false, and_true, mm_sh, hm, mjs_up_at, mjs_up_c, mjs_up_f]
    refine mj_blk rfl ?_
    simp +decide only [mjs_0, mjs_1, mjs_2, mjs_3, mjs_ble, true_and, Bool.false_eq_true, if_false, if_true, Nat.reduceAdd, Nat.reduceSub, Nat.reduceLeDiff, false_implies, true_implies, not_false_eq_true, not_true_eq_false, and_true, mm_sh, hm, mjs_up_at, mjs_up_c, mjs_up_f]
    exact hq H1 J1 c1 c2 trivial
  · refine qF g1 I1 a1 ?_
    intro H Lg d nc ns J Q hJ hA hq
    obtain ⟨D, hD, hDk⟩ : ∃ D, d + (kr + 13) = D + 13 ∧ kr ≤ D := ⟨d + kr, by omega, by omega⟩
    rw [hD]
    try rw [hD] at hq
    refine mj_blk rfl ?_
    simp +decide only [mjs_0, mjs_1, mjs_2, mjs_3, mjs_ble, true_and, Bool.false_eq_true, if_false, if_true, Nat.reduceAdd, Nat.reduceSub, Nat.reduceLeDiff, false_implies, true_implies, not_false_eq_true, not_true_eq_false, and_true, mm_sh, hm, mjs_up_at, mjs_up_c, mjs_up_f]
    refine mj_blk rfl ?_
    simp +decide only [mjs_0, mjs_1, mjs_2, mjs_3, mjs_ble, true_and, Bool.false_eq_true, if_false, if_true, Nat.reduceAdd, Nat.reduceSub, Nat.reduceLeDiff, false_implies, true_implies, not_false_eq_true, not_true_eq_false, and_true, mm_sh, hm, mjs_up_at, mjs_up_c, mjs_up_f]
    refine ry_at a2 (by omega) hJ trivial (fun J1 c1 => ?_)
    simp +decide only [mjs_0, mjs_1, mjs_2, mjs_3, mjs_ble, true_and, Bool.false_eq_true, if_false, if_true, Nat.reduceAdd, Nat.reduceSub, Nat.reduceLeDiff, false_implies, true_implies, not_false_eq_true, not_true_eq_false, and_true, mm_sh, hm, mjs_up_at, mjs_up_c, mjs_up_f]
    refine mj_blk rfl ?_
    simp +decide only [mjs_0, mjs_1, mjs_2, mjs_3, mjs_ble, true_and, Bool.false_eq_true, if_false, if_true, Nat.reduceAdd, Nat.reduceSub, Nat.reduceLeDiff, false_implies, true_implies, not_false_eq_true, not_true_eq_false, and_true, mm_sh, hm, mjs_up_at, mjs_up_c, mjs_up_f]
    exact hq J1 c1
theorem x_cond12 (hR : mj_Rt mp_R Rf) (hM' : mj_Rt mm_R Rf) (hP : XP X Rf vb kc kr n) (hX : XD X Rf vb (kc + 1) (kr + 1) n) (hN : NU X Rf vb kc kr n) (hT : X.2.1[0]? = some mj_t1) {D : Nat} (hD : kc + 10 ≤ D) (hn : K.2.2 + n = 40) (hr' : nc + 1 ≤ X.2.2.1 ∧ ns + 6 ≤ X.2.2.2) (hv : gv (K, P, E, N, S, M, C, O, L)) (hw : gw K S) (hk0 : K.1 = k0 + 1) (hsv : S.2.2.2 ≤ k0) (h1 : 1 ≤ K.2.2) (hE1 : em_v (K.2.2 - 1) E) (hp : P.length ≤ 10000) (h : RC fb vb (K, P, E, N, S, M, C, O, L) I)
    (hQ1 : ∀ fb' K' P' N' S' C' L' I', gv (K', P', E, N', S', M, C', O, L') → RC fb' vb (K', P', E, N', S', M, C', O, L') I' → P'.length ≤ 10060 → xr k0 K N S C L K' N' S' C' L' → RX X Rf (kr + 14) 134 [.ref 36, .int (nI (rt t)), .int (nI 11)] (K, P, E, N, S, M, C, O, L) na none (K', P', E, N', S', M, C', O, L') na → Q (.inl none) (sh59, I', Lg, Rf, nc, ns))
    (hQ3 : ∀ g' I', RCf fb vb g' I' → RY X Rf (kr + 14) 134 [.ref 36, .int (nI (rt t)), .int (nI 11)] (K, P, E, N, S, M, C, O, L) na none g' → Q (.inr 500) (sh59, I', Lg, Rf, nc + 1, ns + 6)) :
    mj_call X mj_P (mj_bi X) D 26 [.ref 28, .int (nI 12), .int (nI t)] (sh59, I, Lg, Rf, nc, ns) Q := by
  have hr := mc_rf hR
  have hm := mm_rf hM'
  obtain ⟨d, rfl⟩ : ∃ d, D = d + 10 := ⟨D - 10, by omega⟩
  have qF : ∀ g' I', RCf fb vb g' I' → RMf X Rf mb_134 (kr + 13) 0 [some (.ref 36), some (.int (nI (rt t))), some (.int (nI 11)), none, none, none, none] [] (K, P, E, N, S, M, C, O, L) na none g' → Q (.inr 500) (sh59, I', Lg, Rf, nc + 1, ns + 6) := fun g' I' a1 a2 => hQ3 g' I' a1 (ry_in (z := 7) (by decide) rfl rfl rfl a2)
  have qE : ∀ fb' K' P' N' S' C' L' I', gv (K', P', E, N', S', M, C', O, L') → RC fb' vb (K', P', E, N', S', M, C', O, L') I' → P'.length ≤ 10060 → xr k0 K N S C L K' N' S' C' L' → RMe X Rf mb_134 (kr + 13) 0 [some (.ref 36), some (.int (nI (rt t))), some (.int (nI 11)), none, none, none, none] [] (K, P, E, N, S, M, C, O, L) na none (K', P', E, N', S', M, C', O, L') na → Q (.inl none) (sh59, I', Lg, Rf, nc, ns) := fun fb' K' P' N' S' C' L' I' a1 a2 a3 a4 a5 => hQ1 fb' K' P' N' S' C' L' I' a1 a2 a3 a4 (rx_in (z := 7) (by decide) rfl rfl rfl a5)
  have hN' : NU X Rf vb (kc + 1) (kr + 1) n := nu_mono hN (by omega) (by omega)
  refine mj_enter (z := (5, [], mb_26)) (by decide) rfl rfl ?_
  refine mj_blk rfl ?_
  simp +decide only [mjs_0, mjs_1, mjs_2, mjs_3, mjs_ble, true_and, Bool.false_eq_true, if_false, if_true, Nat.reduceAdd, Nat.reduceSub, Nat.reduceLeDiff, false_implies, true_implies, not_false_eq_true, not_true_eq_false, and_true]
  refine mj_nv (p_cond (code := 12) (d := d + 1) hR hM' hX hN' (by decide) (by omega) hn hr' hv hw hp h (fun fb1 K1 P1 N1 S1 C1 L1 I1 a1 a2 a3 a4 a5 => ?_) (fun g1 I1 a1 a2 => ?_))
  · refine qE fb1 K1 P1 N1 S1 C1 L1 I1 a1 a2 (by omega) (xr_of (by omega) a4) ?_
    intro H Lg d nc ns J Q hJ hA hq
    obtain ⟨D, hD, hDk⟩ : ∃ D, d + (kr + 13) = D + 13 ∧ kr ≤ D := ⟨d + kr, by omega, by omega⟩
    rw [hD]
    try rw [hD] at hq
    refine mj_blk rfl ?_
    simp +decide only [mjs_0, mjs_1, mjs_2, mjs_3, mjs_ble, true_and, Bool.false_eq_true, if_false, if_true, Nat.reduceAdd, Nat.reduceSub, Nat.reduceLeDiff, false_implies, true_implies, not_false_eq_true, not_true_eq_false, and_true, mm_sh, hm, mjs_up_at, mjs_up_c, mjs_up_f]
    refine mj_blk rfl ?_
    simp +decide only [mjs_0, mjs_1, mjs_2, mjs_3, mjs_ble, true_and, Bool.false_eq_true, if_false, if_true, Nat.reduceAdd, Nat.reduceSub, Nat.reduceLeDiff, false_implies, true_implies, not_false_eq_true, not_true_eq_false, and_true, mm_sh, hm, mjs_up_at, mjs_up_c, mjs_up_f]
    refine rx_at a5 (by omega) hJ trivial (fun H1 J1 c1 c2 _ => ?_)
    simp +decide only [mjs_0, mjs_1, mjs_2, mjs_3, mjs_ble, true_and, Bool.false_eq_true, if_false, if_true, Nat.reduceAdd, Nat.reduceSub, Nat.reduceLeDiff, false_implies, true_implies, not_false_eq_true, not_true_eq_false, and_true, mm_sh, hm, mjs_up_at, mjs_up_c, mjs_up_f]
    refine mj_blk rfl ?_
    simp +decide only [mjs_0, mjs_1, mjs_2, mjs_3, mjs_ble, true_and, Bool.false_eq_true, if_false, if_true, Nat.reduceAdd, Nat.reduceSub, Nat.reduceLeDiff, false_implies, true_implies, not_false_eq_true, not_true_eq_false, and_true, mm_sh, hm, mjs_up_at, mjs_up_c, mjs_up_f]
    exact hq H1 J1 c1 c2 trivial
  · refine qF g1 I1 a1 ?_
    intro H Lg d nc ns J Q hJ hA hq
    obtain ⟨D, hD, hDk⟩ : ∃ D, d + (kr + 13) = D + 13 ∧ kr ≤ D := ⟨d + kr, by omega, by omega⟩
    rw [hD]
    try rw [hD] at hq
    refine mj_blk rfl ?_
    simp +decide only [mjs_0, mjs_1, mjs_2, mjs_3, mjs_ble, true_and, Bool.false_eq_true, if_false, if_true, Nat.reduceAdd, Nat.reduceSub, Nat.reduceLeDiff, false_implies, true_implies, not_false_eq_true, not_true_eq_false, and_true, mm_sh, hm, mjs_up_at, mjs_up_c, mjs_up_f]
    refine mj_blk rfl ?_
    simp +decide only [mjs_0, mjs_1, mjs_2, mjs_3, mjs_ble, true_and, Bool.false_eq_true, if_false, if_true, Nat.reduceAdd, Nat.reduceSub, Nat.reduceLeDiff, false_implies, true_implies, not_false_eq_true, not_true_eq_false, and_true, mm_sh, hm, mjs_up_at, mjs_up_c, mjs_up_f]
    refine ry_at a2 (by omega) hJ trivial (fun J1 c1 => ?_)
    simp +decide only [mjs_0, mjs_1, mjs_2, mjs_3, mjs_ble, true_and, Bool.false_eq_true, if_false, if_true, Nat.reduceAdd, Nat.reduceSub, Nat.reduceLeDiff, false_implies, true_implies, not_false_eq_true, not_true_eq_false, and_true, mm_sh, hm, mjs_up_at, mjs_up_c, mjs_up_f]
    refine mj_blk rfl ?_
    simp +decide only [mjs_0, mjs_1, mjs_2, mjs_3, mjs_ble, true_and, Bool.false_eq_true, if_false, if_true, Nat.reduceAdd, Nat.reduceSub, Nat.reduceLeDiff, false_implies, true_implies, not_false_eq_true, not_true_eq_false, and_true, mm_sh, hm, mjs_up_at, mjs_up_c, mjs_up_f]
    exact hq J1 c1
theorem x_cond13 (hR : mj_Rt mp_R Rf) (hM' : mj_Rt mm_R Rf) (hP : XP X Rf vb kc kr n) (hX : XD X Rf vb (kc + 1) (kr + 1) n) (hN : NU X Rf vb kc kr n) (hT : X.2.1[0]? = some mj_t1) {D : Nat} (hD : kc + 10 ≤ D) (hn : K.2.2 + n = 40) (hr' : nc + 1 ≤ X.2.2.1 ∧ ns + 6 ≤ X.2.2.2) (hv : gv (K, P, E, N, S, M, C, O, L)) (hw : gw K S) (hk0 : K.1 = k0 + 1) (hsv : S.2.2.2 ≤ k0) (h1 : 1 ≤ K.2.2) (hE1 : em_v (K.2.2 - 1) E) (hp : P.length ≤ 10000) (h : RC fb vb (K, P, E, N, S, M, C, O, L) I)
    (hQ1 : ∀ fb' K' P' N' S' C' L' I', gv (K', P', E, N', S', M, C', O, L') → RC fb' vb (K', P', E, N', S', M, C', O, L') I' → P'.length ≤ 10060 → xr k0 K N S C L K' N' S' C' L' → RX X Rf (kr + 14) 134 [.ref 36, .int (nI (rt t)), .int (nI 12)] (K, P, E, N, S, M, C, O, L) na none (K', P', E, N', S', M, C', O, L') na → Q (.inl none) (sh59, I', Lg, Rf, nc, ns))
    (hQ3 : ∀ g' I', RCf fb vb g' I' → RY X Rf (kr + 14) 134 [.ref 36, .int (nI (rt t)), .int (nI 12)] (K, P, E, N, S, M, C, O, L) na none g' → Q (.inr 500) (sh59, I', Lg, Rf, nc + 1, ns + 6)) :
    mj_call X mj_P (mj_bi X) D 26 [.ref 28, .int (nI 13), .int (nI t)] (sh59, I, Lg, Rf, nc, ns) Q := by
  have hr := mc_rf hR
  have hm := mm_rf hM'
  obtain ⟨d, rfl⟩ : ∃ d, D = d + 10 := ⟨D - 10, by omega⟩
  have qF : ∀ g' I', RCf fb vb g' I' → RMf X Rf mb_134 (kr + 13) 0 [some (.ref 36), some (.int (nI (rt t))), some (.int (nI 12)), none, none, none, none] [] (K, P, E, N, S, M, C, O, L) na none g' → Q (.inr 500) (sh59, I', Lg, Rf, nc + 1, ns + 6) := fun g' I' a1 a2 => hQ3 g' I' a1 (ry_in (z := 7) (by decide) rfl rfl rfl a2)
  have qE : ∀ fb' K' P' N' S' C' L' I', gv (K', P', E, N', S', M, C', O, L') → RC fb' vb (K', P', E, N', S', M, C', O, L') I' → P'.length ≤ 10060 → xr k0 K N S C L K' N' S' C' L' → RMe X Rf mb_134 (kr + 13) 0 [some (.ref 36), some (.int (nI (rt t))), some (.int (nI 12)), none, none, none, none] [] (K, P, E, N, S, M, C, O, L) na none (K', P', E, N', S', M, C', O, L') na → Q (.inl none) (sh59, I', Lg, Rf, nc, ns) := fun fb' K' P' N' S' C' L' I' a1 a2 a3 a4 a5 => hQ1 fb' K' P' N' S' C' L' I' a1 a2 a3 a4 (rx_in (z := 7) (by decide) rfl rfl rfl a5)
  have hN' : NU X Rf vb (kc + 1) (kr + 1) n := nu_mono hN (by omega) (by omega)
  refine mj_enter (z := (5, [], mb_26)) (by decide) rfl rfl ?_
  refine mj_blk rfl ?_
  simp +decide only [mjs_0, mjs_1, mjs_2, mjs_3, mjs_ble, true_and, Bool.false_eq_true, if_false, if_true, Nat.reduceAdd, Nat.reduceSub, Nat.reduceLeDiff, false_implies, true_implies, not_false_eq_true, not_true_eq_false, and_true]
  refine mj_nv (p_cond (code := 13) (d := d + 1) hR hM' hX hN' (by decide) (by omega) hn hr' hv hw hp h (fun fb1 K1 P1 N1 S1 C1 L1 I1 a1 a2 a3 a4 a5 => ?_) (fun g1 I1 a1 a2 => ?_))
  · refine qE fb1 K1 P1 N1 S1 C1 L1 I1 a1 a2 (by omega) (xr_of (by omega) a4) ?_
    intro H Lg d nc ns J Q hJ hA hq
    obtain ⟨D, hD, hDk⟩ : ∃ D, d + (kr + 13) = D + 13 ∧ kr ≤ D := ⟨d + kr, by omega, by omega⟩
    rw [hD]
    try rw [hD] at hq
    refine mj_blk rfl ?_
    simp +decide only [mjs_0, mjs_1, mjs_2, mjs_3, mjs_ble, true_and, Bool.false_eq_true, if_false, if_true, Nat.reduceAdd, Nat.reduceSub, Nat.reduceLeDiff, false_implies, true_implies, not_false_eq_true, not_true_eq_false, and_true, mm_sh, hm, mjs_up_at, mjs_up_c, mjs_up_f]
    refine mj_blk rfl ?_
    simp +decide only [mjs_0, mjs_1, mjs_2, mjs_3, mjs_ble, true_and, Bool.false_eq_true, if_false, if_true, Nat.reduceAdd, Nat.reduceSub, Nat.reduceLeDiff, false_implies, true_implies, not_false_eq_true, not_true_eq_false, and_true, mm_sh, hm, mjs_up_at, mjs_up_c, mjs_up_f]
    refine rx_at a5 (by omega) hJ trivial (fun H1 J1 c1 c2 _ => ?_)
    simp +decide only [mjs_0, mjs_1, mjs_2, mjs_3, mjs_ble, true_and, Bool.false_eq_true, if_false, if_true, Nat.reduceAdd, Nat.reduceSub, Nat.reduceLeDiff, false_implies, true_implies, not_false_eq_true, not_true_eq_false, and_true, mm_sh, hm, mjs_up_at, mjs_up_c, mjs_up_f]
    refine mj_blk rfl ?_
    simp +decide only [mjs_0, mjs_1, mjs_2, mjs_3, mjs_ble, true_and, Bool.false_eq_true, if_false, if_true, Nat.reduceAdd, Nat.reduceSub, Nat.reduceLeDiff, false_implies, true_implies, not_false_eq_true, not_true_eq_false, and_true, mm_sh, hm, mjs_up_at, mjs_up_c, mjs_up_f]
    exact hq H1 J1 c1 c2 trivial
  · refine qF g1 I1 a1 ?_
    intro H Lg d nc ns J Q hJ hA hq
    obtain ⟨D, hD, hDk⟩ : ∃ D, d + (kr + 13) = D + 13 ∧ kr ≤ D := ⟨d + kr, by omega, by omega⟩
    rw [hD]
    try rw [hD] at hq
    refine mj_blk rfl ?_
    simp +decide only [mjs_0, mjs_1, mjs_2, mjs_3, mjs_ble, true_and, Bool.false_eq_true, if_false, if_true, Nat.reduceAdd, Nat.reduceSub, Nat.reduceLeDiff, false_implies, true_implies, not_false_eq_true, not_true_eq_false, and_true, mm_sh, hm, mjs_up_at, mjs_up_c, mjs_up_f]
    refine mj_blk rfl ?_
    simp +decide only [mjs_0, mjs_1, mjs_2, mjs_3, mjs_ble, true_and, Bool.false_eq_true, if_false, if_true, Nat.reduceAdd, Nat.reduceSub, Nat.reduceLeDiff, false_implies, true_implies, not_false_eq_true, not_true_eq_false, and_true, mm_sh, hm, mjs_up_at, mjs_up_c, mjs_up_f]
    refine ry_at a2 (by omega) hJ trivial (fun J1 c1 => ?_)
    simp +decide only [mjs_0, mjs_1, mjs_2, mjs_3, mjs_ble, true_and, Bool.false_eq_true, if_false, if_true, Nat.reduceAdd, Nat.reduceSub, Nat.reduceLeDiff, false_implies, true_implies, not_false_eq_true, not_true_eq_false, and_true, mm_sh, hm, mjs_up_at, mjs_up_c, mjs_up_f]
    refine mj_blk rfl ?_
    simp +decide only [mjs_0, mjs_1, mjs_2, mjs_3, mjs_ble, true_and, Bool.false_eq_true, if_false, if_true, Nat.reduceAdd, Nat.reduceSub, Nat.reduceLeDiff, false_implies, true_implies, not_false_eq_true, not_true_eq_false, and_true, mm_sh, hm, mjs_up_at, mjs_up_c, mjs_up_f]
    exact hq J1 c1
theorem x_cond14 (hR : mj_Rt mp_R Rf) (hM' : mj_Rt mm_R Rf) (hP : XP X Rf vb kc kr n) (hX : XD X Rf vb (kc + 1) (kr + 1) n) (hN : NU X Rf vb kc kr n) (hT : X.2.1[0]? = some mj_t1) {D : Nat} (hD : kc + 10 ≤ D) (hn : K.2.2 + n = 40) (hr' : nc + 1 ≤ X.2.2.1 ∧ ns + 6 ≤ X.2.2.2) (hv : gv (K, P, E, N, S, M, C, O, L)) (hw : gw K S) (hk0 : K.1 = k0 + 1) (hsv : S.2.2.2 ≤ k0) (h1 : 1 ≤ K.2.2) (hE1 : em_v (K.2.2 - 1) E) (hp : P.length ≤ 10000) (h : RC fb vb (K, P, E, N, S, M, C, O, L) I)
    (hQ1 : ∀ fb' K' P' N' S' C' L' I', gv (K', P', E, N', S', M, C', O, L') → RC fb' vb (K', P', E, N', S', M, C', O, L') I' → P'.length ≤ 10060 → xr k0 K N S C L K' N' S' C' L' → RX X Rf (kr + 14) 134 [.ref 36, .int (nI (rt t)), .int (nI 13)] (K, P, E, N, S, M, C, O, L) na none (K', P', E, N', S', M, C', O, L') na → Q (.inl none) (sh59, I', Lg, Rf, nc, ns))
    (hQ3 : ∀ g' I', RCf fb vb g' I' → RY X Rf (kr + 14) 134 [.ref 36, .int (nI (rt t)), .int (nI 13)] (K, P, E, N, S, M, C, O, L) na none g' → Q (.inr 500) (sh59, I', Lg, Rf, nc + 1, ns + 6)) :
    mj_call X mj_P (mj_bi X) D 26 [.ref 28, .int (nI 14), .int (nI t)] (sh59, I, Lg, Rf, nc, ns) Q := by
  have hr := mc_rf hR
  have hm := mm_rf hM'
  obtain ⟨d, rfl⟩ : ∃ d, D = d + 10 := ⟨D - 10, by omega⟩
  have qF : ∀ g' I', RCf fb vb g' I' → RMf X Rf mb_134 (kr + 13) 0 [some (.ref 36), some (.int (nI (rt t))), some (.int (nI 13)), none, none, none, none] [] (K, P, E, N, S, M, C, O, L) na none g' → Q (.inr 500) (sh59, I', Lg, Rf, nc + 1, ns + 6) := fun g' I' a1 a2 => hQ3 g' I' a1 (ry_in (z := 7) (by decide) rfl rfl rfl a2)
  have qE : ∀ fb' K' P' N' S' C' L' I', gv (K', P', E, N', S', M, C', O, L') → RC fb' vb (K', P', E, N', S', M, C', O, L') I' → P'.length ≤ 10060 → xr k0 K N S C L K' N' S' C' L' → RMe X Rf mb_134 (kr + 13) 0 [some (.ref 36), some (.int (nI (rt t))), some (.int (nI 13)), none, none, none, none] [] (K, P, E, N, S, M, C, O, L) na none (K', P', E, N', S', M, C', O, L') na → Q (.inl none) (sh59, I', Lg, Rf, nc, ns) := fun fb' K' P' N' S' C' L' I' a1 a2 a3 a4 a5 => hQ1 fb' K' P' N' S' C' L' I' a1 a2 a3 a4 (rx_in (z := 7) (by decide) rfl rfl rfl a5)
  have hN' : NU X Rf vb (kc + 1) (kr + 1) n := nu_mono hN (by omega) (by omega)
  refine mj_enter (z := (5, [], mb_26)) (by decide) rfl rfl ?_
  refine mj_blk rfl ?_
  simp +decide only [mjs_0, mjs_1, mjs_2, mjs_3, mjs_ble, true_and, Bool.false_eq_true, if_false, if_true, Nat.reduceAdd, Nat.reduceSub, Nat.reduceLeDiff, false_implies, true_implies, not_false_eq_true, not_true_eq_false, and_true]
  refine mj_nv (p_cond (code := 14) (d := d + 1) hR hM' hX hN' (by decide) (by omega) hn hr' hv hw hp h (fun fb1 K1 P1 N1 S1 C1 L1 I1 a1 a2 a3 a4 a5 => ?_) (fun g1 I1 a1 a2 => ?_))
  · refine qE fb1 K1 P1 N1 S1 C1 L1 I1 a1 a2 (by omega) (xr_of (by omega) a4) ?_
    intro H Lg d nc ns J Q hJ hA hq
    obtain ⟨D, hD, hDk⟩ : ∃ D, d + (kr + 13) = D + 13 ∧ kr ≤ D := ⟨d + kr, by omega, by omega⟩
    rw [hD]
    try rw [hD] at hq
    refine mj_blk rfl ?_
    simp +decide only [mjs_0, mjs_1, mjs_2, mjs_3, mjs_ble, true_and, Bool.false_eq_true, if_false, if_true, Nat.reduceAdd, Nat.reduceSub, Nat.reduceLeDiff, false_implies, true_implies, not_false_eq_true, not_true_eq_false, and_true, mm_sh, hm, mjs_up_at, mjs_up_c, mjs_up_f]
    refine mj_blk rfl ?_
    simp +decide only [mjs_0, mjs_1, mjs_2, mjs_3, mjs_ble, true_and, Bool.false_eq_true, if_false, if_true, Nat.reduceAdd, Nat.reduceSub, Nat.reduceLeDiff, false_implies, true_implies, not_false_eq_true, not_true_eq_false, and_true, mm_sh, hm, mjs_up_at, mjs_up_c, mjs_up_f]
    refine rx_at a5 (by omega) hJ trivial (fun H1 J1 c1 c2 _ => ?_)
    simp +decide only [mjs_0, mjs_1, mjs_2, mjs_3, mjs_ble, true_and, Bool.false_eq_true, if_false, if_true, Nat.reduceAdd, Nat.reduceSub, Nat.reduceLeDiff, false_implies, true_implies, not_false_eq_true, not_true_eq_false, and_true, mm_sh, hm, mjs_up_at, mjs_up_c, mjs_up_f]
    refine mj_blk rfl ?_
    simp +decide only [mjs_0, mjs_1, mjs_2, mjs_3, mjs_ble, true_and, Bool.false_eq_true, if_false, if_true, Nat.reduceAdd, Nat.reduceSub, Nat.reduceLeDiff, false_implies, true_implies, not_false_eq_true, not_true_eq_false, and_true, mm_sh, hm, mjs_up_at, mjs_up_c, mjs_up_f]
    exact hq H1 J1 c1 c2 trivial
  · refine qF g1 I1 a1 ?_
    intro H Lg d nc ns J Q hJ hA hq
    obtain ⟨D, hD, hDk⟩ : ∃ D, d + (kr + 13) = D + 13 ∧ kr ≤ D := ⟨d + kr, by omega, by omega⟩
    rw [hD]
    try rw [hD] at hq
    refine mj_blk rfl ?_
    simp +decide only [mjs_0, mjs_1, mjs_2, mjs_3, mjs_ble, true_and, Bool.false_eq_true, if_false, if_true, Nat.reduceAdd, Nat.reduceSub, Nat.reduceLeDiff, false_implies, true_implies, not_false_eq_true, not_true_eq_false, and_true, mm_sh, hm, mjs_up_at, mjs_up_c, mjs_up_f]
    refine mj_blk rfl ?_
    simp +decide only [mjs_0, mjs_1, mjs_2, mjs_3, mjs_ble, true_and, Bool.false_eq_true, if_false, if_true, Nat.reduceAdd, Nat.reduceSub, Nat.reduceLeDiff, false_implies, true_implies, not_false_eq_true, not_true_eq_false, and_true, mm_sh, hm, mjs_up_at, mjs_up_c, mjs_up_f]
    refine ry_at a2 (by omega) hJ trivial (fun J1 c1 => ?_)
    simp +decide only [mjs_0, mjs_1, mjs_2, mjs_3, mjs_ble, true_and, Bool.false_eq_true, if_false, if_true, Nat.reduceAdd, Nat.reduceSub, Nat.reduceLeDiff, false_implies, true_implies, not_false_eq_true, not_true_eq_false, and_true, mm_sh, hm, mjs_up_at, mjs_up_c, mjs_up_f]
    refine mj_blk rfl ?_
    simp +decide only [mjs_0, mjs_1, mjs_2, mjs_3, mjs_ble, true_and, Bool.false_eq_true, if_false, if_true, Nat.reduceAdd, Nat.reduceSub, Nat.reduceLeDiff, false_implies, true_implies, not_false_eq_true, not_true_eq_false, and_true, mm_sh, hm, mjs_up_at, mjs_up_c, mjs_up_f]
    exact hq J1 c1
theorem x_cond15 (hR : mj_Rt mp_R Rf) (hM' : mj_Rt mm_R Rf) (hP : XP X Rf vb kc kr n) (hX : XD X Rf vb (kc + 1) (kr + 1) n) (hN : NU X Rf vb kc kr n) (hT : X.2.1[0]? = some mj_t1) {D : Nat} (hD : kc + 10 ≤ D) (hn : K.2.2 + n = 40) (hr' : nc + 1 ≤ X.2.2.1 ∧ ns + 6 ≤ X.2.2.2) (hv : gv (K, P, E, N, S, M, C, O, L)) (hw : gw K S) (hk0 : K.1 = k0 + 1) (hsv : S.2.2.2 ≤ k0) (h1 : 1 ≤ K.2.2) (hE1 : em_v (K.2.2 - 1) E) (hp : P.length ≤ 10000) (h : RC fb vb (K, P, E, N, S, M, C, O, L) I)
    (hQ1 : ∀ fb' K' P' N' S' C' L' I', gv (K', P', E, N', S', M, C', O, L') → RC fb' vb (K', P', E, N', S', M, C', O, L') I' → P'.length ≤ 10060 → xr k0 K N S C L K' N' S' C' L' → RX X Rf (kr + 14) 134 [.ref 36, .int (nI (rt t)), .int (nI 14)] (K, P, E, N, S, M, C, O, L) na none (K', P', E, N', S', M, C', O, L') na → Q (.inl none) (sh59, I', Lg, Rf, nc, ns))
    (hQ3 : ∀ g' I', RCf fb vb g' I' → RY X Rf (kr + 14) 134 [.ref 36, .int (nI (rt t)), .int (nI 14)] (K, P, E, N, S, M, C, O, L) na none g' → Q (.inr 500) (sh59, I', Lg, Rf, nc + 1, ns + 6)) :
    mj_call X mj_P (mj_bi X) D 26 [.ref 28, .int (nI 15), .int (nI t)] (sh59, I, Lg, Rf, nc, ns) Q := by
  have hr := mc_rf hR
  have hm := mm_rf hM'
  obtain ⟨d, rfl⟩ : ∃ d, D = d + 10 := ⟨D - 10, by omega⟩
  have qF : ∀ g' I', RCf fb vb g' I' → RMf X Rf mb_134 (kr + 13) 0 [some (.ref 36), some (.int (nI (rt t))), some (.int (nI 14)), none, none, none, none] [] (K, P, E, N, S, M, C, O, L) na none g' → Q (.inr 500) (sh59, I', Lg, Rf, nc + 1, ns + 6) := fun g' I' a1 a2 => hQ3 g' I' a1 (ry_in (z := 7) (by decide) rfl rfl rfl a2)
  have qE : ∀ fb' K' P' N' S' C' L' I', gv (K', P', E, N', S', M, C', O, L') → RC fb' vb (K', P', E, N', S', M, C', O, L') I' → P'.length ≤ 10060 → xr k0 K N S C L K' N' S' C' L' → RMe X Rf mb_134 (kr + 13) 0 [some (.ref 36), some (.int (nI (rt t))), some (.int (nI 14)), none, none, none, none] [] (K, P, E, N, S, M, C, O, L) na none (K', P', E, N', S', M, C', O, L') na → Q (.inl none) (sh59, I', Lg, Rf, nc, ns) := fun fb' K' P' N' S' C' L' I' a1 a2 a3 a4 a5 => hQ1 fb' K' P' N' S' C' L' I' a1 a2 a3 a4 (rx_in (z := 7) (by decide) rfl rfl rfl a5)
  have hN' : NU X Rf vb (kc + 1) (kr + 1) n := nu_mono hN (by omega) (by omega)
  refine mj_enter (z := (5, [], mb_26)) (by decide) rfl rfl ?_
  refine mj_blk rfl ?_
  simp +decide only [mjs_0, mjs_1, mjs_2, mjs_3, mjs_ble, true_and, Bool.false_eq_true, if_false, if_true, Nat.reduceAdd, Nat.reduceSub, Nat.reduceLeDiff, false_implies, true_implies, not_false_eq_true, not_true_eq_false, and_true]
  refine mj_nv (p_cond (code := 15) (d := d + 1) hR hM' hX hN' (by decide) (by omega) hn hr' hv hw hp h (fun fb1 K1 P1 N1 S1 C1 L1 I1 a1 a2 a3 a4 a5 => ?_) (fun g1 I1 a1 a2 => ?_))
  · refine qE fb1 K1 P1 N1 S1 C1 L1 I1 a1 a2 (by omega) (xr_of (by omega) a4) ?_
    intro H Lg d nc ns J Q hJ hA hq
    obtain ⟨D, hD, hDk⟩ : ∃ D, d + (kr + 13) = D + 13 ∧ kr ≤ D := ⟨d + kr, by omega, by omega⟩
    rw [hD]
    try rw [hD] at hq
    refine mj_blk rfl ?_
    simp +decide only [mjs_0, mjs_1, mjs_2, mjs_3, mjs_ble, true_and, Bool.false_eq_true, if_false, if_true, Nat.reduceAdd, Nat.reduceSub, Nat.reduceLeDiff, false_implies, true_implies, not_false_eq_true, not_true_eq_false, and_true, mm_sh, hm, mjs_up_at, mjs_up_c, mjs_up_f]
    refine mj_blk rfl ?_
    simp +decide only [mjs_0, mjs_1, mjs_2, mjs_3, mjs_ble, true_and, Bool.false_eq_true, if_false, if_true, Nat.reduceAdd, Nat.reduceSub, Nat.reduceLeDiff, false_implies, true_implies, not_false_eq_true, not_true_eq_false, and_true, mm_sh, hm, mjs_up_at, mjs_up_c, mjs_up_f]
    refine rx_at a5 (by omega) hJ trivial (fun H1 J1 c1 c2 _ => ?_)
    simp +decide only [mjs_0, mjs_1, mjs_2, mjs_3, mjs_ble, true_and, Bool.false_eq_true, if_false, if_true, Nat.reduceAdd, Nat.reduceSub, Nat.reduceLeDiff, false_implies, true_implies, not_false_eq_true, not_true_eq_false, and_true, mm_sh, hm, mjs_up_at, mjs_up_c, mjs_up_f]
    refine mj_blk rfl ?_
    simp +decide only [mjs_0, mjs_1, mjs_2, mjs_3, mjs_ble, true_and, Bool.false_eq_true, if_false, if_true, Nat.reduceAdd, Nat.reduceSub, Nat.reduceLeDiff, false_implies, true_implies, not_false_eq_true, not_true_eq_false, and_true, mm_sh, hm, mjs_up_at, mjs_up_c, mjs_up_f]
    exact hq H1 J1 c1 c2 trivial
  · refine qF g1 I1 a1 ?_
    intro H Lg d nc ns J Q hJ hA hq
    obtain ⟨D, hD, hDk⟩ : ∃ D, d + (kr + 13) = D + 13 ∧ kr ≤ D := ⟨d + kr, by omega, by omega⟩
    rw [hD]
    try rw [hD] at hq
    refine mj_blk rfl ?_
    simp +decide only [mjs_0, mjs_1, mjs_2, mjs_3, mjs_ble, true_and, Bool.false_eq_true, if_false, if_true, Nat.reduceAdd, Nat.reduceSub, Nat.reduceLeDiff, false_implies, true_implies, not_false_eq_true, not_true_eq_false, and_true, mm_sh, hm, mjs_up_at, mjs_up_c, mjs_up_f]
    refine mj_blk rfl ?_
    simp +decide only [mjs_0, mjs_1, mjs_2, mjs_3, mjs_ble, true_and, Bool.false_eq_true, if_false, if_true, Nat.reduceAdd, Nat.reduceSub, Nat.reduceLeDiff, false_implies, true_implies, not_false_eq_true, not_true_eq_false, and_true, mm_sh, hm, mjs_up_at, mjs_up_c, mjs_up_f]
    refine ry_at a2 (by omega) hJ trivial (fun J1 c1 => ?_)
    simp +decide only [mjs_0, mjs_1, mjs_2, mjs_3, mjs_ble, true_and, Bool.false_eq_true, if_false, if_true, Nat.reduceAdd, Nat.reduceSub, Nat.reduceLeDiff, false_implies, true_implies, not_false_eq_true, not_true_eq_false, and_true, mm_sh, hm, mjs_up_at, mjs_up_c, mjs_up_f]
    refine mj_blk rfl ?_
    simp +decide only [mjs_0, mjs_1, mjs_2, mjs_3, mjs_ble, true_and, Bool.false_eq_true, if_false, if_true, Nat.reduceAdd, Nat.reduceSub, Nat.reduceLeDiff, false_implies, true_implies, not_false_eq_true, not_true_eq_false, and_true, mm_sh, hm, mjs_up_at, mjs_up_c, mjs_up_f]
    exact hq J1 c1
end MJPX
