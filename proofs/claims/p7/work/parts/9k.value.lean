/-! SMALL NUMBERS AND VALUES, in both -/
/-- a fault, behind which an int is answered that says nothing -/
def RYi (X : mj_X) (Rf : Nat → Nat → Option Nat) (k M : Nat) (as : List Value) (g : sg) (A : (Nat → Nat → Int32) → Prop) (g' : sg) : Prop := ∀ (H : Nat → Nat → Int32) (Lg : Nat → Nat → Int64) (d nc ns : Nat) (J : Nat → Nat → Int32) (Q : mj_Q), RR H g J → A H → (∀ J' x, RD H g' J' → Q (.inl (some (.int x))) (sh59, J', Lg, Rf, nc, ns)) → mj_call X mj_P (mj_bi X) (d + k) M as (sh59, J, Lg, Rf, nc, ns) Q
section MJVL
variable {X : mj_X} {d nc ns : Nat} {Q : mj_Q} {I I' J J' H : Nat → Nat → Int32} {Lg : Nat → Nat → Int64} {Rf : Nat → Nat → Option Nat} {fb fb' : Nat → Nat → Int32} {vb : Nat → Int32} {K K' K'' : Nat × Nat × Nat} {P P' P'' : List Nat} {E : sgE} {N N' N'' : sgN} {S S' S'' : sgS} {M : sgM} {C C' C'' : sgC} {O : sgO} {L L' L'' : sgL} {t n kc kr dp : Nat}
theorem gv_K (h : gv (K, P, E, N, S, M, C, O, L)) (he : em_v K'.2.2 E) : gv (K', P, E, N, S, M, C, O, L) := ⟨h.1, he, h.2.2⟩
theorem rc_K (h : RC fb vb (K, P, E, N, S, M, C, O, L) I) (hd : dp ≤ 40) : RC fb vb ((K.1, K.2.1, dp), P, E, N, S, M, C, O, L) (mj_up I 1 3 (nI dp)) := by
  obtain ⟨⟨k1, k2, k3, k4, k5, k6⟩, hP, hE, hN, hS, hM, hC, hO, hL, hZ⟩ := rc_d h
  exact ⟨⟨k1, k2, rfl, k4, k5, hd⟩, hP, hE, hN, hS, hM, hC, hO, hL, hZ⟩
theorem rr_K (h : RR H (K, P, E, N, S, M, C, O, L) J) : RR H ((K.1, K.2.1, dp), P, E, N, S, M, C, O, L) (mj_up J 36 38 (nI dp)) := by
  obtain ⟨⟨k1, k2, k3, k4⟩, hP, hE, hN, hS, hM, hC, hO, hL, hZ⟩ := rr_d h
  exact ⟨⟨k1, k2, rfl, k4⟩, hP, hE, hN, hS, hM, hC, hO, hL, fun c hc => by rw [mj_up_off (by omega)]; exact hZ c hc⟩
theorem ryi_at {k D M : Nat} {as : List Value} {g g' : sg} {A : (Nat → Nat → Int32) → Prop} (h : RYi X Rf k M as g A g') (hD : k ≤ D) (hJ : RR H g J) (hA : A H) (hq : ∀ J' x, RD H g' J' → Q (.inl (some (.int x))) (sh59, J', Lg, Rf, nc, ns)) : mj_call X mj_P (mj_bi X) D M as (sh59, J, Lg, Rf, nc, ns) Q := by
  have := h H Lg (D - k) nc ns J Q hJ hA hq
  rwa [Nat.sub_add_cancel hD] at this
/-- numberUpTo, small -/
theorem p_44 (hR : mj_Rt mp_R Rf) (hM' : mj_Rt mm_R Rf) (hN : NU X Rf vb kc kr n) {D most : Nat} (hD : kc + 3 ≤ D) (hmo : most < 2 ^ 31) (hn : K.2.2 + n = 40) (hr' : nc + 1 ≤ X.2.2.1 ∧ ns + 6 ≤ X.2.2.2) (hv : gv (K, P, E, N, S, M, C, O, L)) (hw : gw K S) (hp : P.length ≤ 10000) (h : RC fb vb (K, P, E, N, S, M, C, O, L) I)
    (hQ1 : ∀ fb' K' P' N' S' C' L' I' k, gv (K', P', E, N', S', M, C', O, L') → RC fb' vb (K', P', E, N', S', M, C', O, L') I' → P'.length ≤ 10000 → xs K P N S C L K' P' N' S' C' L' → k ≤ most → RX X Rf (kr + 3) 155 [.ref 36, .int (nI most)] (K, P, E, N, S, M, C, O, L) na (some (.int (nI k))) (K', P', E, N', S', M, C', O, L') na → Q (.inl (some (.int (nI k)))) (sh59, I', Lg, Rf, nc, ns))
    (hQ3 : ∀ g' I', RCf fb vb g' I' → RY X Rf (kr + 3) 155 [.ref 36, .int (nI most)] (K, P, E, N, S, M, C, O, L) na (some (.int 0)) g' → Q (.inr 500) (sh59, I', Lg, Rf, nc + 1, ns + 6)) :
    mj_call X mj_P (mj_bi X) D 44 [.ref 28, .int (nI most)] (sh59, I, Lg, Rf, nc, ns) Q := by
  have hr := mc_rf hR
  have hm := mm_rf hM'
  obtain ⟨d, rfl⟩ : ∃ d, D = d + 3 := ⟨D - 3, by omega⟩
  refine mj_enter (z := (3, [], mb_44)) (by decide) rfl rfl ?_
  refine mj_blk rfl ?_
  simp +decide only [mjs_0, mjs_1, mjs_2, mjs_3, mjs_ble, true_and, Bool.false_eq_true, if_false, if_true, Nat.reduceAdd, Nat.reduceSub, Nat.reduceLeDiff, false_implies, true_implies, not_false_eq_true, not_true_eq_false, and_true, mc_sh]
  refine hN fb K P E N S M C O L nc ns Lg I _ (d + 2) (by omega) hn hr' hv hw hp h (fun fb' K' P' N' S' C' L' I' x a1 a2 a3 a4 a5 a6 => ?_) (fun g' I' a1 a2 => ?_)
  · have bad : x < 0 ∨ ¬ x ≤ nI most → ∀ w2 : Option Value, mj_rn X (mj_hd []) (mj_call X mj_P (mj_bi X) (d + 2)) mb_44 14 [some (.ref 28), some (.int (nI most)), w2] [] (sh59, I', Lg, Rf, nc, ns) Q := by
      intro hx w2
      refine mj_blk rfl ?_
      simp +decide only [mjs_0, mjs_1, mjs_2, mjs_3, mjs_ble, true_and, Bool.false_eq_true, if_false, if_true, Nat.reduceAdd, Nat.reduceSub, Nat.reduceLeDiff, false_implies, true_implies, not_false_eq_true, not_true_eq_false, and_true, mc_sh, hr, mjs_up_at, mjs_up_c, mjs_up_f]
      refine c_80 s59_1 hr' ?_
      simp +decide only [mjs_0, mjs_1, mjs_2, mjs_3, mjs_ble, true_and, Bool.false_eq_true, if_false, if_true, Nat.reduceAdd, Nat.reduceSub, Nat.reduceLeDiff, false_implies, true_implies, not_false_eq_true, not_true_eq_false, and_true]
      refine hQ3 _ _ (rc_f (fb := fb') a1 a2) (ry_in (z := 3) (by decide) rfl rfl rfl ?_)
      intro H Lg d nc ns J Q hJ hA hq
      obtain ⟨D, hD, hDk⟩ : ∃ D, d + (kr + 2) = D + 2 ∧ kr ≤ D := ⟨d + kr, by omega, by omega⟩
      rw [hD]
      try rw [hD] at hq
      refine mj_blk rfl ?_
      simp +decide only [mjs_0, mjs_1, mjs_2, mjs_3, mjs_ble, true_and, Bool.false_eq_true, if_false, if_true, Nat.reduceAdd, Nat.reduceSub, Nat.reduceLeDiff, false_implies, true_implies, not_false_eq_true, not_true_eq_false, and_true, mm_sh, hm, mjs_up_at, mjs_up_c, mjs_up_f]
      refine rx_at a6 (by omega) hJ trivial (fun H1 J1 c1 c2 _ => ?_)
      have z : mj_rn X (mj_hd []) (mj_call X mj_P (mj_bi X) (D + 2)) mb_155 21 [some (.ref 36), none, some (.int x)] [] (sh59, J1, Lg, Rf, nc, ns) Q := by
        refine mj_blk rfl ?_
        simp +decide only [mjs_0, mjs_1, mjs_2, mjs_3, mjs_ble, true_and, Bool.false_eq_true, if_false, if_true, Nat.reduceAdd, Nat.reduceSub, Nat.reduceLeDiff, false_implies, true_implies, not_false_eq_true, not_true_eq_false, and_true, mm_sh, hm, mjs_up_at, mjs_up_c, mjs_up_f]
        refine c_106 s59_36 ?_
        rw [if_pos (rr_d c2).1.2.2.2]
        simp +decide only [mjs_0, mjs_1, mjs_2, mjs_3, mjs_ble, true_and, Bool.false_eq_true, if_false, if_true, Nat.reduceAdd, Nat.reduceSub, Nat.reduceLeDiff, false_implies, true_implies, not_false_eq_true, not_true_eq_false, and_true, mm_sh, hm, mjs_up_at, mjs_up_c, mjs_up_f]
        refine mj_blk rfl ?_
        simp +decide only [mjs_0, mjs_1, mjs_2, mjs_3, mjs_ble, true_and, Bool.false_eq_true, if_false, if_true, Nat.reduceAdd, Nat.reduceSub, Nat.reduceLeDiff, false_implies, true_implies, not_false_eq_true, not_true_eq_false, and_true, mm_sh, hm, mjs_up_at, mjs_up_c, mjs_up_f]
        refine mj_blk rfl ?_
        simp +decide only [mjs_0, mjs_1, mjs_2, mjs_3, mjs_ble, true_and, Bool.false_eq_true, if_false, if_true, Nat.reduceAdd, Nat.reduceSub, Nat.reduceLeDiff, false_implies, true_implies, not_false_eq_true, not_true_eq_false, and_true, mm_sh, hm, mjs_up_at, mjs_up_c, mjs_up_f]
        refine mj_blk rfl ?_
        simp +decide only [mjs_0, mjs_1, mjs_2, mjs_3, mjs_ble, true_and, Bool.false_eq_true, if_false, if_true, Nat.reduceAdd, Nat.reduceSub, Nat.reduceLeDiff, false_implies, true_implies, not_false_eq_true, not_true_eq_false, and_true, mm_sh, hm, mjs_up_at, mjs_up_c, mjs_up_f]
        exact hq _ (rd_hx (rr_f (f := 7) (by decide) (by decide) c2) c1)
      simp +decide only [mjs_0, mjs_1, mjs_2, mjs_3, mjs_ble, true_and, Bool.false_eq_true, if_false, if_true, Nat.reduceAdd, Nat.reduceSub, Nat.reduceLeDiff, false_implies, true_implies, not_false_eq_true, not_true_eq_false, and_true, mm_sh, hm, mjs_up_at, mjs_up_c, mjs_up_f, (rr_d c2).1.2.2.2]
      refine mj_blk rfl ?_
      simp +decide only [mjs_0, mjs_1, mjs_2, mjs_3, mjs_ble, true_and, Bool.false_eq_true, if_false, if_true, Nat.reduceAdd, Nat.reduceSub, Nat.reduceLeDiff, false_implies, true_implies, not_false_eq_true, not_true_eq_false, and_true, mm_sh, hm, mjs_up_at, mjs_up_c, mjs_up_f]
      by_cases h0 : x < 0
      · exact ⟨fun _ => mj_nv z, fun q => absurd h0 q⟩
      · refine ⟨fun q => absurd q h0, fun _ => mj_blk rfl ?_⟩
        simp +decide only [mjs_0, mjs_1, mjs_2, mjs_3, mjs_ble, true_and, Bool.false_eq_true, if_false, if_true, Nat.reduceAdd, Nat.reduceSub, Nat.reduceLeDiff, false_implies, true_implies, not_false_eq_true, not_true_eq_false, and_true, mm_sh, hm, mjs_up_at, mjs_up_c, mjs_up_f]
        rcases hx with hx | hx
        · exact absurd hx h0
        · exact ⟨fun q => absurd q hx, fun _ => mj_nv z⟩
    simp +decide only [mjs_0, mjs_1, mjs_2, mjs_3, mjs_ble, true_and, Bool.false_eq_true, if_false, if_true, Nat.reduceAdd, Nat.reduceSub, Nat.reduceLeDiff, false_implies, true_implies, not_false_eq_true, not_true_eq_false, and_true]
    by_cases h0 : x < 0
    · exact ⟨fun _ => mj_nv (bad (Or.inl h0) none), fun q => absurd h0 q⟩
    · refine ⟨fun q => absurd q h0, fun _ => mj_blk rfl ?_⟩
      simp +decide only [mjs_0, mjs_1, mjs_2, mjs_3, mjs_ble, true_and, Bool.false_eq_true, if_false, if_true, Nat.reduceAdd, Nat.reduceSub, Nat.reduceLeDiff, false_implies, true_implies, not_false_eq_true, not_true_eq_false, and_true]
      by_cases h1 : x ≤ nI most
      · obtain ⟨k, hk, rfl⟩ := nI_of h0
        have hk2 : k ≤ most := (nI_leI hk hmo).mp h1
        refine ⟨fun _ => mj_blk rfl ?_, fun q => absurd h1 q⟩
        simp +decide only [mjs_0, mjs_1, mjs_2, mjs_3, mjs_ble, true_and, Bool.false_eq_true, if_false, if_true, Nat.reduceAdd, Nat.reduceSub, Nat.reduceLeDiff, false_implies, true_implies, not_false_eq_true, not_true_eq_false, and_true]
        refine mj_blk rfl ?_
        simp +decide only [mjs_0, mjs_1, mjs_2, mjs_3, mjs_ble, true_and, Bool.false_eq_true, if_false, if_true, Nat.reduceAdd, Nat.reduceSub, Nat.reduceLeDiff, false_implies, true_implies, not_false_eq_true, not_true_eq_false, and_true]
        refine hQ1 fb' K' P' N' S' C' L' I' k a1 a2 a3 a4 hk2 (rx_in (z := 3) (by decide) rfl rfl rfl ?_)
        intro H Lg d nc ns J Q hJ hA hq
        obtain ⟨D, hD, hDk⟩ : ∃ D, d + (kr + 2) = D + 2 ∧ kr ≤ D := ⟨d + kr, by omega, by omega⟩
        rw [hD]
        try rw [hD] at hq
        refine mj_blk rfl ?_
        simp +decide only [mjs_0, mjs_1, mjs_2, mjs_3, mjs_ble, true_and, Bool.false_eq_true, if_false, if_true, Nat.reduceAdd, Nat.reduceSub, Nat.reduceLeDiff, false_implies, true_implies, not_false_eq_true, not_true_eq_false, and_true, mm_sh, hm, mjs_up_at, mjs_up_c, mjs_up_f]
        refine rx_at a6 (by omega) hJ trivial (fun H1 J1 c1 c2 _ => ?_)
        simp +decide only [mjs_0, mjs_1, mjs_2, mjs_3, mjs_ble, true_and, Bool.false_eq_true, if_false, if_true, Nat.reduceAdd, Nat.reduceSub, Nat.reduceLeDiff, false_implies, true_implies, not_false_eq_true, not_true_eq_false, and_true, mm_sh, hm, mjs_up_at, mjs_up_c, mjs_up_f, (rr_d c2).1.2.2.2]
        refine mj_blk rfl ?_
        simp +decide only [mjs_0, mjs_1, mjs_2, mjs_3, mjs_ble, true_and, Bool.false_eq_true, if_false, if_true, Nat.reduceAdd, Nat.reduceSub, Nat.reduceLeDiff, false_implies, true_implies, not_false_eq_true, not_true_eq_false, and_true, mm_sh, hm, mjs_up_at, mjs_up_c, mjs_up_f]
        refine ⟨fun q => absurd q h0, fun _ => mj_blk rfl ?_⟩
        simp +decide only [mjs_0, mjs_1, mjs_2, mjs_3, mjs_ble, true_and, Bool.false_eq_true, if_false, if_true, Nat.reduceAdd, Nat.reduceSub, Nat.reduceLeDiff, false_implies, true_implies, not_false_eq_true, not_true_eq_false, and_true, mm_sh, hm, mjs_up_at, mjs_up_c, mjs_up_f]
        refine ⟨fun _ => mj_blk rfl ?_, fun q => absurd h1 q⟩
        simp +decide only [mjs_0, mjs_1, mjs_2, mjs_3, mjs_ble, true_and, Bool.false_eq_true, if_false, if_true, Nat.reduceAdd, Nat.reduceSub, Nat.reduceLeDiff, false_implies, true_implies, not_false_eq_true, not_true_eq_false, and_true, mm_sh, hm, mjs_up_at, mjs_up_c, mjs_up_f, (rr_d c2).1.2.2.2]
        refine mj_blk rfl ?_
        simp +decide only [mjs_0, mjs_1, mjs_2, mjs_3, mjs_ble, true_and, Bool.false_eq_true, if_false, if_true, Nat.reduceAdd, Nat.reduceSub, Nat.reduceLeDiff, false_implies, true_implies, not_false_eq_true, not_true_eq_false, and_true, mm_sh, hm, mjs_up_at, mjs_up_c, mjs_up_f]
        refine mj_blk rfl ?_
        simp +decide only [mjs_0, mjs_1, mjs_2, mjs_3, mjs_ble, true_and, Bool.false_eq_true, if_false, if_true, Nat.reduceAdd, Nat.reduceSub, Nat.reduceLeDiff, false_implies, true_implies, not_false_eq_true, not_true_eq_false, and_true, mm_sh, hm, mjs_up_at, mjs_up_c, mjs_up_f]
        exact hq H1 J1 c1 c2 trivial
      · exact ⟨fun q => absurd q h1, fun _ => mj_nv (bad (Or.inr h1) none)⟩
  · simp +decide only [mjs_0, mjs_1, mjs_2, mjs_3, mjs_ble, true_and, Bool.false_eq_true, if_false, if_true, Nat.reduceAdd, Nat.reduceSub, Nat.reduceLeDiff, false_implies, true_implies, not_false_eq_true, not_true_eq_false, and_true]
    refine hQ3 g' I' a1 (ry_in (z := 3) (by decide) rfl rfl rfl ?_)
    intro H Lg d nc ns J Q hJ hA hq
    obtain ⟨D, hD, hDk⟩ : ∃ D, d + (kr + 2) = D + 2 ∧ kr ≤ D := ⟨d + kr, by omega, by omega⟩
    rw [hD]
    try rw [hD] at hq
    refine mj_blk rfl ?_
    simp +decide only [mjs_0, mjs_1, mjs_2, mjs_3, mjs_ble, true_and, Bool.false_eq_true, if_false, if_true, Nat.reduceAdd, Nat.reduceSub, Nat.reduceLeDiff, false_implies, true_implies, not_false_eq_true, not_true_eq_false, and_true, mm_sh, hm, mjs_up_at, mjs_up_c, mjs_up_f]
    refine ry_at a2 (by omega) hJ trivial (fun J1 c1 => ?_)
    simp +decide only [mjs_0, mjs_1, mjs_2, mjs_3, mjs_ble, true_and, Bool.false_eq_true, if_false, if_true, Nat.reduceAdd, Nat.reduceSub, Nat.reduceLeDiff, false_implies, true_implies, not_false_eq_true, not_true_eq_false, and_true, mm_sh, hm, mjs_up_at, mjs_up_c, mjs_up_f]
    refine ⟨fun _ => mj_blk rfl ?_, fun q => absurd (rd_ne c1) q⟩
    simp +decide only [mjs_0, mjs_1, mjs_2, mjs_3, mjs_ble, true_and, Bool.false_eq_true, if_false, if_true, Nat.reduceAdd, Nat.reduceSub, Nat.reduceLeDiff, false_implies, true_implies, not_false_eq_true, not_true_eq_false, and_true, mm_sh, hm, mjs_up_at, mjs_up_c, mjs_up_f]
    refine ⟨fun q => absurd q (rd_nle c1), fun _ => mj_blk rfl ?_⟩
    simp +decide only [mjs_0, mjs_1, mjs_2, mjs_3, mjs_ble, true_and, Bool.false_eq_true, if_false, if_true, Nat.reduceAdd, Nat.reduceSub, Nat.reduceLeDiff, false_implies, true_implies, not_false_eq_true, not_true_eq_false, and_true, mm_sh, hm, mjs_up_at, mjs_up_c, mjs_up_f]
    refine mj_blk rfl ?_
    simp +decide only [mjs_0, mjs_1, mjs_2, mjs_3, mjs_ble, true_and, Bool.false_eq_true, if_false, if_true, Nat.reduceAdd, Nat.reduceSub, Nat.reduceLeDiff, false_implies, true_implies, not_false_eq_true, not_true_eq_false, and_true, mm_sh, hm, mjs_up_at, mjs_up_c, mjs_up_f]
    exact hq J1 c1
/-- what has a value -/
def hvl (S : sgS) (t : Nat) : Prop := gm S t / 65536 = 4 ∨ gp S t = 31 ∨ gp S t = 32
theorem rr_num (h : RR H (K, P, E, N, S, M, C, O, L) J) (hv : gv (K, P, E, N, S, M, C, O, L)) (ht : tv N.2.2 t) : (3000000 ≤ mr_me J 36 S.2.2.1 (rt t) ↔ gm S t / 65536 = 4) ∧ (gm S t / 65536 = 4 → mr_me J 36 S.2.2.1 (rt t) - 3000000 = nI (gm S t % 65536)) ∧ (mr_me J 36 S.2.2.1 (rt t) = 1029 ↔ gp S t = 31) := by
  have me := (rr_me h hv ht).1
  have hM := (gv_d hv).2.2.2.2.1
  have hl := gm_lt hv ht
  have hmade := gvM_made hM
  have hp := mw_p hM (by omega) me (p := 31) (by decide) (by decide)
  refine ⟨?_, ?_, ?_⟩
  · rcases mw_n hM (by omega) me with ⟨z, y⟩ | ⟨p, p1, p2, z, y⟩ | ⟨a, b, z, b1, y, _⟩ | ⟨c, c1, z, y⟩ | ⟨m, m1, z, y⟩
    · rw [y, z]
      decide
    · rw [y, z]
      have := rp_lt (i := p - 1) (k := 36) (by omega) (by decide)
      constructor
      · intro q
        exact absurd ((nI_leI (a := 3000000) (by decide) (by omega)).mp q) (by omega)
      · intro q
        omega
    · rw [y, z]
      constructor
      · intro q
        exact absurd ((nI_leI (a := 3000000) (by decide) (by omega)).mp q) (by omega)
      · intro q
        have : a < 10001 := by
          rename_i hq
          have := hq.1
          omega
        omega
    · rw [y, z]
      constructor
      · intro q
        exact absurd ((nI_leI (a := 3000000) (by decide) (by omega)).mp q) (by omega)
      · intro q
        omega
    · rw [y, z]
      constructor
      · intro q
        omega
      · intro q
        exact nI_le (a := 3000000) (by omega) (by omega)
  · intro q4
    rcases mw_n hM (by omega) me with ⟨z, y⟩ | ⟨p, p1, p2, z, y⟩ | ⟨a, b, z, b1, y, hq⟩ | ⟨c, c1, z, y⟩ | ⟨m, m1, z, y⟩
    · omega
    · omega
    · have := hq.1
      omega
    · omega
    · rw [y, z, show (3000000 : Int32) = nI 3000000 from rfl, pk_sub (by omega)]
      exact congrArg nI (by omega)
  · exact hp
theorem rq_154 (hM' : mj_Rt mm_R Rf) (h : RR H (K, P, E, N, S, M, C, O, L) J) (hv : gv (K, P, E, N, S, M, C, O, L)) (ht : tv N.2.2 t) (hQ1 : hvl S t → Q (.inl (some (.int 1))) (sh59, J, Lg, Rf, nc, ns)) (hQ0 : ¬ hvl S t → Q (.inl (some (.int 0))) (sh59, J, Lg, Rf, nc, ns)) : mj_call X mj_P (mj_bi X) (d + 5) 154 [.ref 36, .int (nI (rt t))] (sh59, J, Lg, Rf, nc, ns) Q := by
  have hm := mm_rf hM'
  have hk : N.2.2 ≤ 1036 := (gv_d hv).2.2.1.2.1
  have hk1 : 36 ≤ N.2.2 := (gv_d hv).2.2.1.1
  have rl := rt_lt hk hk1 ht
  have me := rr_me h hv ht
  have nm := rr_num h hv ht
  have hne : ¬ nI (rt t) = -1 := fun e => absurd (nI_pos (n := rt t) (by omega)) (by rw [e]; decide)
  have one : hvl S t → mj_rn X (mj_hd []) (mj_call X mj_P (mj_bi X) (d + 4)) mb_154 36 [none, none] [] (sh59, J, Lg, Rf, nc, ns) Q := by
    intro hh
    refine mj_blk rfl ?_
    simp +decide only [mjs_0, mjs_1, mjs_2, mjs_3, mjs_ble, true_and, Bool.false_eq_true, if_false, if_true, Nat.reduceAdd, Nat.reduceSub, Nat.reduceLeDiff, false_implies, true_implies, not_false_eq_true, not_true_eq_false, and_true]
    refine mj_blk rfl ?_
    simp +decide only [mjs_0, mjs_1, mjs_2, mjs_3, mjs_ble, true_and, Bool.false_eq_true, if_false, if_true, Nat.reduceAdd, Nat.reduceSub, Nat.reduceLeDiff, false_implies, true_implies, not_false_eq_true, not_true_eq_false, and_true]
    exact hQ1 hh
  refine mj_enter (z := (2, [], mb_154)) (by decide) rfl rfl ?_
  refine mj_blk rfl ?_
  simp +decide only [mjs_0, mjs_1, mjs_2, mjs_3, mjs_ble, true_and, Bool.false_eq_true, if_false, if_true, Nat.reduceAdd, Nat.reduceSub, Nat.reduceLeDiff, false_implies, true_implies, not_false_eq_true, not_true_eq_false, and_true, mm_sh, hm, mjs_up_at, mjs_up_c, mjs_up_f]
  refine rq_126 (p := 31) (k := 29) hM' h hv ht (by decide) (by decide) (by decide) (fun e => ?_) (fun e => ?_)
  · simp +decide only [mjs_0, mjs_1, mjs_2, mjs_3, mjs_ble, true_and, Bool.false_eq_true, if_false, if_true, Nat.reduceAdd, Nat.reduceSub, Nat.reduceLeDiff, false_implies, true_implies, not_false_eq_true, not_true_eq_false, and_true]
    exact mj_nv (one (Or.inr (Or.inl e)))
  · simp +decide only [mjs_0, mjs_1, mjs_2, mjs_3, mjs_ble, true_and, Bool.false_eq_true, if_false, if_true, Nat.reduceAdd, Nat.reduceSub, Nat.reduceLeDiff, false_implies, true_implies, not_false_eq_true, not_true_eq_false, and_true]
    refine mj_blk rfl ?_
    simp +decide only [mjs_0, mjs_1, mjs_2, mjs_3, mjs_ble, true_and, Bool.false_eq_true, if_false, if_true, Nat.reduceAdd, Nat.reduceSub, Nat.reduceLeDiff, false_implies, true_implies, not_false_eq_true, not_true_eq_false, and_true, mm_sh, hm, mjs_up_at, mjs_up_c, mjs_up_f]
    refine rq_126 (p := 32) (k := 30) hM' h hv ht (by decide) (by decide) (by decide) (fun e2 => ?_) (fun e2 => ?_)
    · simp +decide only [mjs_0, mjs_1, mjs_2, mjs_3, mjs_ble, true_and, Bool.false_eq_true, if_false, if_true, Nat.reduceAdd, Nat.reduceSub, Nat.reduceLeDiff, false_implies, true_implies, not_false_eq_true, not_true_eq_false, and_true]
      exact mj_nv (one (Or.inr (Or.inr e2)))
    · simp +decide only [mjs_0, mjs_1, mjs_2, mjs_3, mjs_ble, true_and, Bool.false_eq_true, if_false, if_true, Nat.reduceAdd, Nat.reduceSub, Nat.reduceLeDiff, false_implies, true_implies, not_false_eq_true, not_true_eq_false, and_true]
      refine mj_blk rfl ?_
      simp +decide only [mjs_0, mjs_1, mjs_2, mjs_3, mjs_ble, true_and, Bool.false_eq_true, if_false, if_true, Nat.reduceAdd, Nat.reduceSub, Nat.reduceLeDiff, false_implies, true_implies, not_false_eq_true, not_true_eq_false, and_true]
      refine ⟨fun q => absurd q hne, fun _ => mj_blk rfl ?_⟩
      simp +decide only [mjs_0, mjs_1, mjs_2, mjs_3, mjs_ble, true_and, Bool.false_eq_true, if_false, if_true, Nat.reduceAdd, Nat.reduceSub, Nat.reduceLeDiff, false_implies, true_implies, not_false_eq_true, not_true_eq_false, and_true, mm_sh, hm, mjs_up_at, mjs_up_c, mjs_up_f]
      refine r_125 (mm_W hM') (by omega) (rr_d h).2.2.2.2.1.1 (rr_d h).2.2.2.2.1.2.2.2.2 me.2.1 ?_
      simp +decide only [mjs_0, mjs_1, mjs_2, mjs_3, mjs_ble, true_and, Bool.false_eq_true, if_false, if_true, Nat.reduceAdd, Nat.reduceSub, Nat.reduceLeDiff, false_implies, true_implies, not_false_eq_true, not_true_eq_false, and_true]
      by_cases e3 : gm S t / 65536 = 4
      · exact ⟨fun q => absurd (nm.1.mpr e3) (Int32.not_le.mpr q), fun _ => mj_nv (one (Or.inl e3))⟩
      · refine ⟨fun _ => mj_blk rfl ?_, fun q => absurd (nm.1.mp (Int32.not_lt.mp q)) e3⟩
        simp +decide only [mjs_0, mjs_1, mjs_2, mjs_3, mjs_ble, true_and, Bool.false_eq_true, if_false, if_true, Nat.reduceAdd, Nat.reduceSub, Nat.reduceLeDiff, false_implies, true_implies, not_false_eq_true, not_true_eq_false, and_true]
        refine mj_blk rfl ?_
        simp +decide only [mjs_0, mjs_1, mjs_2, mjs_3, mjs_ble, true_and, Bool.false_eq_true, if_false, if_true, Nat.reduceAdd, Nat.reduceSub, Nat.reduceLeDiff, false_implies, true_implies, not_false_eq_true, not_true_eq_false, and_true]
        exact hQ0 (fun hh => by rcases hh with hh | hh | hh <;> contradiction)
/-- valueOf, value -/
theorem p_43 (hR : mj_Rt mp_R Rf) (hM' : mj_Rt mm_R Rf) (hN : NU X Rf vb kc kr n) {D : Nat} (hD : kc + 6 ≤ D) (hn : K.2.2 + n = 40) (hr' : nc + 1 ≤ X.2.2.1 ∧ ns + 6 ≤ X.2.2.2) (hv : gv (K, P, E, N, S, M, C, O, L)) (hw : gw K S) (hp : P.length ≤ 10000) (ht : tv N.2.2 t) (h : RC fb vb (K, P, E, N, S, M, C, O, L) I)
    (hQ1 : ∀ fb' K' P' N' S' C' L' I' x, gv (K', P', E, N', S', M, C', O, L') → RC fb' vb (K', P', E, N', S', M, C', O, L') I' → P'.length ≤ 10000 → xs K P N S C L K' P' N' S' C' L' → x ≠ -2147483648 → hvl S t → RX X Rf (kr + 6) 156 [.ref 36, .int (nI (rt t))] (K, P, E, N, S, M, C, O, L) na (some (.int x)) (K', P', E, N', S', M, C', O, L') na → Q (.inl (some (.int x))) (sh59, I', Lg, Rf, nc, ns))
    (hQ0 : ¬ hvl S t → ∀ I', RCf fb vb (K, P, E, N, S, M, C, O, L) I' → Q (.inr 500) (sh59, I', Lg, Rf, nc + 1, ns + 6))
    (hQ3 : hvl S t → ∀ g' I', RCf fb vb g' I' → RYi X Rf (kr + 6) 156 [.ref 36, .int (nI (rt t))] (K, P, E, N, S, M, C, O, L) na g' → Q (.inr 500) (sh59, I', Lg, Rf, nc + 1, ns + 6)) :
    mj_call X mj_P (mj_bi X) D 43 [.ref 28, .int (nI t)] (sh59, I, Lg, Rf, nc, ns) Q := by
  have hr := mc_rf hR
  have hm := mm_rf hM'
  have hl := gm_lt hv ht
  have hgp := gp_le hv ht
  have hk : N.2.2 ≤ 1036 := (gv_d hv).2.2.1.2.1
  have hk1 : 36 ≤ N.2.2 := (gv_d hv).2.2.1.1
  have rl := rt_lt hk hk1 ht
  obtain ⟨d, rfl⟩ : ∃ d, D = d + 6 := ⟨D - 6, by omega⟩
  -- the reference to its meaning
  refine mj_enter (z := (4, [], mb_43)) (by decide) rfl rfl ?_
  refine mj_blk rfl ?_
  simp +decide only [mjs_0, mjs_1, mjs_2, mjs_3, mjs_ble, true_and, Bool.false_eq_true, if_false, if_true, Nat.reduceAdd, Nat.reduceSub, Nat.reduceLeDiff, false_implies, true_implies, not_false_eq_true, not_true_eq_false, and_true, mc_sh, hr, mjs_up_at, mjs_up_c, mjs_up_f]
  refine cq_96 hR h hv ht ?_
  simp +decide only [mjs_0, mjs_1, mjs_2, mjs_3, mjs_ble, true_and, Bool.false_eq_true, if_false, if_true, Nat.reduceAdd, Nat.reduceSub, Nat.reduceLeDiff, false_implies, true_implies, not_false_eq_true, not_true_eq_false, and_true]
  refine c_93 (by omega) ?_
  simp +decide only [mjs_0, mjs_1, mjs_2, mjs_3, mjs_ble, true_and, Bool.false_eq_true, if_false, if_true, Nat.reduceAdd, Nat.reduceSub, Nat.reduceLeDiff, false_implies, true_implies, not_false_eq_true, not_true_eq_false, and_true]
  by_cases e4 : gm S t / 65536 = 4
  · simp +decide only [mjs_0, mjs_1, mjs_2, mjs_3, mjs_ble, true_and, Bool.false_eq_true, if_false, if_true, Nat.reduceAdd, Nat.reduceSub, Nat.reduceLeDiff, false_implies, true_implies, not_false_eq_true, not_true_eq_false, and_true, e4]
    refine mj_blk rfl ?_
    simp +decide only [mjs_0, mjs_1, mjs_2, mjs_3, mjs_ble, true_and, Bool.false_eq_true, if_false, if_true, Nat.reduceAdd, Nat.reduceSub, Nat.reduceLeDiff, false_implies, true_implies, not_false_eq_true, not_true_eq_false, and_true]
    refine c_94 ?_
    simp +decide only [mjs_0, mjs_1, mjs_2, mjs_3, mjs_ble, true_and, Bool.false_eq_true, if_false, if_true, Nat.reduceAdd, Nat.reduceSub, Nat.reduceLeDiff, false_implies, true_implies, not_false_eq_true, not_true_eq_false, and_true]
    refine hQ1 fb K P N S C L I _ hv h hp xs_rf ?_ (Or.inl e4) (rx_in (z := 4) (by decide) rfl rfl rfl ?_)
    · intro q
      exact absurd (nI_pos (n := gm S t % 65536) (by omega)) (by rw [q]; decide)
    · intro H Lg d nc ns J Q hJ hA hq
      obtain ⟨D, hD, hDk⟩ : ∃ D, d + (kr + 5) = D + 5 ∧ kr ≤ D := ⟨d + kr, by omega, by omega⟩
      rw [hD]
      try rw [hD] at hq
      have me := rr_me hJ hv ht
      have nm := rr_num hJ hv ht
      refine mj_blk rfl ?_
      simp +decide only [mjs_0, mjs_1, mjs_2, mjs_3, mjs_ble, true_and, Bool.false_eq_true, if_false, if_true, Nat.reduceAdd, Nat.reduceSub, Nat.reduceLeDiff, false_implies, true_implies, not_false_eq_true, not_true_eq_false, and_true, mm_sh, hm, mjs_up_at, mjs_up_c, mjs_up_f]
      refine r_125 (mm_W hM') (by omega) (rr_d hJ).2.2.2.2.1.1 (rr_d hJ).2.2.2.2.1.2.2.2.2 me.2.1 ?_
      simp +decide only [mjs_0, mjs_1, mjs_2, mjs_3, mjs_ble, true_and, Bool.false_eq_true, if_false, if_true, Nat.reduceAdd, Nat.reduceSub, Nat.reduceLeDiff, false_implies, true_implies, not_false_eq_true, not_true_eq_false, and_true]
      refine ⟨fun q => absurd (nm.1.mpr e4) (Int32.not_le.mpr q), fun _ => mj_blk rfl ?_⟩
      simp +decide only [mjs_0, mjs_1, mjs_2, mjs_3, mjs_ble, true_and, Bool.false_eq_true, if_false, if_true, Nat.reduceAdd, Nat.reduceSub, Nat.reduceLeDiff, false_implies, true_implies, not_false_eq_true, not_true_eq_false, and_true, nm.2.1 e4]
      exact hq H J hx_rf hJ trivial
  · have n4 : ¬ nI (gm S t / 65536) = 4 := fun q => e4 ((nI_eq (by omega) (by decide)).mp (show nI (gm S t / 65536) = nI 4 from q))
    refine ⟨fun _ => mj_blk rfl ?_, fun q => absurd n4 q⟩
    -- behind the test: the value itself
    have val : ∀ (p off : Nat), (p = 31 ∧ off = 0 ∨ p = 32 ∧ off = 256) → gp S t = p → mj_rn X (mj_hd []) (mj_call X mj_P (mj_bi X) (d + 5)) mb_43 73 [some (.ref 28), none, none, none] [.int (nI off), .ref 10] (sh59, I, Lg, Rf, nc, ns) Q := by
      intro p off hpo hgpp
      have hh : hvl S t := Or.inr (by rcases hpo with ⟨rfl, _⟩ | ⟨rfl, _⟩; exact Or.inl hgpp; exact Or.inr hgpp)
      have hoff : off ≤ 256 := by omega
      have y1 : ∀ {H J : Nat → Nat → Int32}, RR H (K, P, E, N, S, M, C, O, L) J → (off = 0 → mr_me J 36 S.2.2.1 (rt t) = 1029) ∧ (off = 256 → ¬ mr_me J 36 S.2.2.1 (rt t) = 1029) := fun {H J} hJ => by
        have nm := (rr_num hJ hv ht).2.2
        refine ⟨fun e => nm.mpr (by omega), fun e q => ?_⟩
        have := nm.mp q
        omega
      refine mj_blk rfl ?_
      simp +decide only [mjs_0, mjs_1, mjs_2, mjs_3, mjs_ble, true_and, Bool.false_eq_true, if_false, if_true, Nat.reduceAdd, Nat.reduceSub, Nat.reduceLeDiff, false_implies, true_implies, not_false_eq_true, not_true_eq_false, and_true, mc_sh]
      refine p_44 (most := 255) hR hM' hN (by omega) (by decide) hn hr' hv hw hp h (fun fb' K' P' N' S' C' L' I' k a1 a2 a3 a4 a5 a6 => ?_) (fun g' I' a1 a2 => ?_)
      · have eo : (nI (off + k)).toNatClampNeg = off + k := nI_clamp (by omega)
        have i10 : I' 10 (off + k) = S'.1 S'.2.2.1 (off + k) := rc_10 (rc_d a2).2.2.2.2.1 (by omega)
        have hgw := gw_xs hw a4
        have hlv : S'.2.2.1 ≤ 100 := (gv_d a1).2.2.2.1.1
        simp +decide only [mjs_0, mjs_1, mjs_2, mjs_3, mjs_ble, true_and, Bool.false_eq_true, if_false, if_true, Nat.reduceAdd, Nat.reduceSub, Nat.reduceLeDiff, false_implies, true_implies, not_false_eq_true, not_true_eq_false, and_true, nI_add, eo, i10, mc_sh]
        refine ⟨nI_in (by omega) (by decide), ?_⟩
        refine hQ1 fb' K' P' N' S' C' L' I' _ a1 a2 a3 a4 ?_ hh (rx_in (z := 4) (by decide) rfl rfl rfl ?_)
        · rcases hpo with ⟨_, rfl⟩ | ⟨_, rfl⟩
          · rw [Nat.zero_add]
            exact hgw.2 _ k (Nat.le_refl _) (by omega)
          · obtain ⟨q, q1, q2⟩ := (gv_d a1).2.2.2.1.2.1 S'.2.2.1 k (Nat.le_refl _) (by omega)
            rw [q2]
            intro hq
            exact absurd (nI_pos (n := q) (by omega)) (by rw [hq]; decide)
        · intro H Lg d nc ns J Q hJ hA hq
          obtain ⟨D, hD, hDk⟩ : ∃ D, d + (kr + 5) = D + 5 ∧ kr ≤ D := ⟨d + kr, by omega, by omega⟩
          rw [hD]
          try rw [hD] at hq
          have me := rr_me hJ hv ht
          have nm := rr_num hJ hv ht
          have e1 : (256 : Int32) * nI S'.2.2.1 = nI (256 * S'.2.2.1) := pk_mul 256 _
          have e2 : (nI (256 * S'.2.2.1 + k)).toNatClampNeg = 256 * S'.2.2.1 + k := nI_clamp (by omega)
          refine mj_blk rfl ?_
          simp +decide only [mjs_0, mjs_1, mjs_2, mjs_3, mjs_ble, true_and, Bool.false_eq_true, if_false, if_true, Nat.reduceAdd, Nat.reduceSub, Nat.reduceLeDiff, false_implies, true_implies, not_false_eq_true, not_true_eq_false, and_true, mm_sh, hm, mjs_up_at, mjs_up_c, mjs_up_f]
          refine r_125 (mm_W hM') (by omega) (rr_d hJ).2.2.2.2.1.1 (rr_d hJ).2.2.2.2.1.2.2.2.2 me.2.1 ?_
          simp +decide only [mjs_0, mjs_1, mjs_2, mjs_3, mjs_ble, true_and, Bool.false_eq_true, if_false, if_true, Nat.reduceAdd, Nat.reduceSub, Nat.reduceLeDiff, false_implies, true_implies, not_false_eq_true, not_true_eq_false, and_true]
          refine ⟨fun _ => mj_blk rfl ?_, fun q => absurd (nm.1.mp (Int32.not_lt.mp q)) e4⟩
          simp +decide only [mjs_0, mjs_1, mjs_2, mjs_3, mjs_ble, true_and, Bool.false_eq_true, if_false, if_true, Nat.reduceAdd, Nat.reduceSub, Nat.reduceLeDiff, false_implies, true_implies, not_false_eq_true, not_true_eq_false, and_true, mm_sh, hm, mjs_up_at, mjs_up_c, mjs_up_f]
          refine rx_at a6 (by omega) hJ trivial (fun H1 J1 c1 c2 _ => ?_)
          have s3 := (rr_d c2).2.2.2.2.1.2.2.1 S'.2.2.1 k (Nat.le_refl _) (by omega)
          rcases hpo with ⟨_, rfl⟩ | ⟨_, rfl⟩
          · simp +decide only [mjs_0, mjs_1, mjs_2, mjs_3, mjs_ble, true_and, Bool.false_eq_true, if_false, if_true, Nat.reduceAdd, Nat.reduceSub, Nat.reduceLeDiff, false_implies, true_implies, not_false_eq_true, not_true_eq_false, and_true, mm_sh, hm, mjs_up_at, mjs_up_c, mjs_up_f]
            refine ⟨fun q => absurd ((y1 hJ).1 rfl) q, fun _ => mj_blk rfl ?_⟩
            simp +decide only [mjs_0, mjs_1, mjs_2, mjs_3, mjs_ble, true_and, Bool.false_eq_true, if_false, if_true, Nat.reduceAdd, Nat.reduceSub, Nat.reduceLeDiff, false_implies, true_implies, not_false_eq_true, not_true_eq_false, and_true, mm_sh, hm, mjs_up_at, mjs_up_c, mjs_up_f, (rr_d c2).2.2.2.2.1.1, e1, nI_add, e2, s3.1]
            refine ⟨nI_in (by omega) (by decide), mj_blk rfl ?_⟩
            simp +decide only [mjs_0, mjs_1, mjs_2, mjs_3, mjs_ble, true_and, Bool.false_eq_true, if_false, if_true, Nat.reduceAdd, Nat.reduceSub, Nat.reduceLeDiff, false_implies, true_implies, not_false_eq_true, not_true_eq_false, and_true, mm_sh, hm, mjs_up_at, mjs_up_c, mjs_up_f]
            rw [Nat.zero_add] at hq
            exact hq H1 J1 c1 c2 trivial
          · simp +decide only [mjs_0, mjs_1, mjs_2, mjs_3, mjs_ble, true_and, Bool.false_eq_true, if_false, if_true, Nat.reduceAdd, Nat.reduceSub, Nat.reduceLeDiff, false_implies, true_implies, not_false_eq_true, not_true_eq_false, and_true, mm_sh, hm, mjs_up_at, mjs_up_c, mjs_up_f]
            refine ⟨fun _ => mj_blk rfl ?_, fun q => absurd ((y1 hJ).2 rfl) q⟩
            simp +decide only [mjs_0, mjs_1, mjs_2, mjs_3, mjs_ble, true_and, Bool.false_eq_true, if_false, if_true, Nat.reduceAdd, Nat.reduceSub, Nat.reduceLeDiff, false_implies, true_implies, not_false_eq_true, not_true_eq_false, and_true, mm_sh, hm, mjs_up_at, mjs_up_c, mjs_up_f, (rr_d c2).2.2.2.2.1.1, e1, nI_add, e2, s3.2.1]
            refine ⟨nI_in (by omega) (by decide), mj_blk rfl ?_⟩
            simp +decide only [mjs_0, mjs_1, mjs_2, mjs_3, mjs_ble, true_and, Bool.false_eq_true, if_false, if_true, Nat.reduceAdd, Nat.reduceSub, Nat.reduceLeDiff, false_implies, true_implies, not_false_eq_true, not_true_eq_false, and_true, mm_sh, hm, mjs_up_at, mjs_up_c, mjs_up_f]
            exact hq H1 J1 c1 c2 trivial
      · simp +decide only [mjs_0, mjs_1, mjs_2, mjs_3, mjs_ble, true_and, Bool.false_eq_true, if_false, if_true, Nat.reduceAdd, Nat.reduceSub, Nat.reduceLeDiff, false_implies, true_implies, not_false_eq_true, not_true_eq_false, and_true]
        refine hQ3 hh g' I' a1 ?_
        intro H Lg d nc ns J Q hJ hA hq
        obtain ⟨D, hD, hDk⟩ : ∃ D, d + (kr + 6) = D + 6 ∧ kr ≤ D := ⟨d + kr, by omega, by omega⟩
        rw [hD]
        have me := rr_me hJ hv ht
        have nm := rr_num hJ hv ht
        refine mj_enter (z := (4, [], mb_156)) (by decide) rfl rfl ?_
        refine mj_blk rfl ?_
        simp +decide only [mjs_0, mjs_1, mjs_2, mjs_3, mjs_ble, true_and, Bool.false_eq_true, if_false, if_true, Nat.reduceAdd, Nat.reduceSub, Nat.reduceLeDiff, false_implies, true_implies, not_false_eq_true, not_true_eq_false, and_true, mm_sh, hm, mjs_up_at, mjs_up_c, mjs_up_f]
        refine r_125 (mm_W hM') (by omega) (rr_d hJ).2.2.2.2.1.1 (rr_d hJ).2.2.2.2.1.2.2.2.2 me.2.1 ?_
        simp +decide only [mjs_0, mjs_1, mjs_2, mjs_3, mjs_ble, true_and, Bool.false_eq_true, if_false, if_true, Nat.reduceAdd, Nat.reduceSub, Nat.reduceLeDiff, false_implies, true_implies, not_false_eq_true, not_true_eq_false, and_true]
        refine ⟨fun _ => mj_blk rfl ?_, fun q => absurd (nm.1.mp (Int32.not_lt.mp q)) e4⟩
        simp +decide only [mjs_0, mjs_1, mjs_2, mjs_3, mjs_ble, true_and, Bool.false_eq_true, if_false, if_true, Nat.reduceAdd, Nat.reduceSub, Nat.reduceLeDiff, false_implies, true_implies, not_false_eq_true, not_true_eq_false, and_true, mm_sh, hm, mjs_up_at, mjs_up_c, mjs_up_f]
        refine ry_at a2 (by omega) hJ trivial (fun J1 c1 => ?_)
        obtain ⟨lv, l1, l2⟩ := c1.2.2.2.1.2
        have e1 : (256 : Int32) * nI lv = nI (256 * lv) := pk_mul 256 _
        have e2 : (nI (256 * lv) + 0).toNatClampNeg = 256 * lv := by
          rw [Int32.add_zero]
          exact nI_clamp (by omega)
        have e3 : vp_in (nI (256 * lv) + 0) 25856 := by
          rw [Int32.add_zero]
          exact nI_in (by omega) (by decide)
        simp +decide only [mjs_0, mjs_1, mjs_2, mjs_3, mjs_ble, true_and, Bool.false_eq_true, if_false, if_true, Nat.reduceAdd, Nat.reduceSub, Nat.reduceLeDiff, false_implies, true_implies, not_false_eq_true, not_true_eq_false, and_true, mm_sh, hm, mjs_up_at, mjs_up_c, mjs_up_f]
        refine ⟨fun _ => mj_blk rfl ?_, fun _ => mj_blk rfl ?_⟩
        · simp +decide only [mjs_0, mjs_1, mjs_2, mjs_3, mjs_ble, true_and, Bool.false_eq_true, if_false, if_true, Nat.reduceAdd, Nat.reduceSub, Nat.reduceLeDiff, false_implies, true_implies, not_false_eq_true, not_true_eq_false, and_true, mm_sh, hm, mjs_up_at, mjs_up_c, mjs_up_f, l2, e1, e2]
          refine ⟨e3, mj_blk rfl ?_⟩
          simp +decide only [mjs_0, mjs_1, mjs_2, mjs_3, mjs_ble, true_and, Bool.false_eq_true, if_false, if_true, Nat.reduceAdd, Nat.reduceSub, Nat.reduceLeDiff, false_implies, true_implies, not_false_eq_true, not_true_eq_false, and_true, mm_sh, hm, mjs_up_at, mjs_up_c, mjs_up_f]
          exact hq J1 _ c1
        · simp +decide only [mjs_0, mjs_1, mjs_2, mjs_3, mjs_ble, true_and, Bool.false_eq_true, if_false, if_true, Nat.reduceAdd, Nat.reduceSub, Nat.reduceLeDiff, false_implies, true_implies, not_false_eq_true, not_true_eq_false, and_true, mm_sh, hm, mjs_up_at, mjs_up_c, mjs_up_f, l2, e1, e2]
          refine ⟨e3, mj_blk rfl ?_⟩
          simp +decide only [mjs_0, mjs_1, mjs_2, mjs_3, mjs_ble, true_and, Bool.false_eq_true, if_false, if_true, Nat.reduceAdd, Nat.reduceSub, Nat.reduceLeDiff, false_implies, true_implies, not_false_eq_true, not_true_eq_false, and_true, mm_sh, hm, mjs_up_at, mjs_up_c, mjs_up_f]
          exact hq J1 _ c1
    simp +decide only [mjs_0, mjs_1, mjs_2, mjs_3, mjs_ble, true_and, Bool.false_eq_true, if_false, if_true, Nat.reduceAdd, Nat.reduceSub, Nat.reduceLeDiff, false_implies, true_implies, not_false_eq_true, not_true_eq_false, and_true, mc_sh, hr, mjs_up_at, mjs_up_c, mjs_up_f]
    refine cq_97 hR h hv ht ?_
    simp +decide only [mjs_0, mjs_1, mjs_2, mjs_3, mjs_ble, true_and, Bool.false_eq_true, if_false, if_true, Nat.reduceAdd, Nat.reduceSub, Nat.reduceLeDiff, false_implies, true_implies, not_false_eq_true, not_true_eq_false, and_true]
    by_cases e31 : gp S t = 31
    · simp +decide only [mjs_0, mjs_1, mjs_2, mjs_3, mjs_ble, true_and, Bool.false_eq_true, if_false, if_true, Nat.reduceAdd, Nat.reduceSub, Nat.reduceLeDiff, false_implies, true_implies, not_false_eq_true, not_true_eq_false, and_true, e31]
      refine mj_blk rfl ?_
      simp +decide only [mjs_0, mjs_1, mjs_2, mjs_3, mjs_ble, true_and, Bool.false_eq_true, if_false, if_true, Nat.reduceAdd, Nat.reduceSub, Nat.reduceLeDiff, false_implies, true_implies, not_false_eq_true, not_true_eq_false, and_true, mc_sh, hr, mjs_up_at, mjs_up_c, mjs_up_f]
      refine mj_blk rfl ?_
      simp +decide only [mjs_0, mjs_1, mjs_2, mjs_3, mjs_ble, true_and, Bool.false_eq_true, if_false, if_true, Nat.reduceAdd, Nat.reduceSub, Nat.reduceLeDiff, false_implies, true_implies, not_false_eq_true, not_true_eq_false, and_true]
      exact mj_nv (val 31 0 (Or.inl ⟨rfl, rfl⟩) e31)
    · have n31 : ¬ nI (gp S t) = 31 := fun q => e31 ((nI_eq (by omega) (by decide)).mp (show nI (gp S t) = nI 31 from q))
      refine ⟨fun q => absurd q n31, fun _ => mj_blk rfl ?_⟩
      by_cases e32 : gp S t = 32
      · simp +decide only [mjs_0, mjs_1, mjs_2, mjs_3, mjs_ble, true_and, Bool.false_eq_true, if_false, if_true, Nat.reduceAdd, Nat.reduceSub, Nat.reduceLeDiff, false_implies, true_implies, not_false_eq_true, not_true_eq_false, and_true, e32]
        refine mj_blk rfl ?_
        simp +decide only [mjs_0, mjs_1, mjs_2, mjs_3, mjs_ble, true_and, Bool.false_eq_true, if_false, if_true, Nat.reduceAdd, Nat.reduceSub, Nat.reduceLeDiff, false_implies, true_implies, not_false_eq_true, not_true_eq_false, and_true, mc_sh, hr, mjs_up_at, mjs_up_c, mjs_up_f]
        refine mj_blk rfl ?_
        simp +decide only [mjs_0, mjs_1, mjs_2, mjs_3, mjs_ble, true_and, Bool.false_eq_true, if_false, if_true, Nat.reduceAdd, Nat.reduceSub, Nat.reduceLeDiff, false_implies, true_implies, not_false_eq_true, not_true_eq_false, and_true]
        exact mj_nv (val 32 256 (Or.inr ⟨rfl, rfl⟩) e32)
      · have n32 : ¬ nI (gp S t) = 32 := fun q => e32 ((nI_eq (by omega) (by decide)).mp (show nI (gp S t) = nI 32 from q))
        simp +decide only [mjs_0, mjs_1, mjs_2, mjs_3, mjs_ble, true_and, Bool.false_eq_true, if_false, if_true, Nat.reduceAdd, Nat.reduceSub, Nat.reduceLeDiff, false_implies, true_implies, not_false_eq_true, not_true_eq_false, and_true]
        refine ⟨fun q => absurd q n32, fun _ => mj_blk rfl ?_⟩
        simp +decide only [mjs_0, mjs_1, mjs_2, mjs_3, mjs_ble, true_and, Bool.false_eq_true, if_false, if_true, Nat.reduceAdd, Nat.reduceSub, Nat.reduceLeDiff, false_implies, true_implies, not_false_eq_true, not_true_eq_false, and_true, mc_sh, hr, mjs_up_at, mjs_up_c, mjs_up_f]
        refine c_80 s59_1 hr' ?_
        simp +decide only [mjs_0, mjs_1, mjs_2, mjs_3, mjs_ble, true_and, Bool.false_eq_true, if_false, if_true, Nat.reduceAdd, Nat.reduceSub, Nat.reduceLeDiff, false_implies, true_implies, not_false_eq_true, not_true_eq_false, and_true]
        exact hQ0 (fun hh => by rcases hh with hh | hh | hh <;> contradiction) _ (rc_f hv h)
end MJVL
