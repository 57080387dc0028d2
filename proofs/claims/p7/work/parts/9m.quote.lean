/-! THE CHARACTER BEHIND `, in both; number's frame -/
def chn (N : sgN) (t : Nat) : Option Nat := if t / 65536 % 2 = 1 then (if N.2.1 (t % 65536) = 1 then some (N.1 (t % 65536) 0) else none) else some (t % 256)
section MJQU
variable {X : mj_X} {d nc ns : Nat} {Q : mj_Q} {I I' J J' H : Nat → Nat → Int32} {Lg : Nat → Nat → Int64} {Rf : Nat → Nat → Option Nat} {fb fb' : Nat → Nat → Int32} {vb : Nat → Int32} {K K' K'' : Nat × Nat × Nat} {P P' P'' : List Nat} {E : sgE} {N N' N'' : sgN} {S S' S'' : sgS} {M : sgM} {C C' C'' : sgC} {O : sgO} {L L' L'' : sgL} {t n kc kr dp : Nat} {o : Option Nat}
theorem tv_nx {k : Nat} (hk : k ≤ 1036) (ht : tv k t) (hn : t / 65536 % 2 = 1) : t % 65536 < k := by
  unfold tv tb at ht
  omega
theorem chn_lt (hv : gv (K, P, E, N, S, M, C, O, L)) (ht : tv N.2.2 t) {c : Nat} (h : chn N t = some c) : c < 256 := by
  have hk : N.2.2 ≤ 1036 := (gv_d hv).2.2.1.2.1
  unfold chn at h
  split at h
  · rename_i hn
    split at h
    · rename_i h1
      cases h
      exact ((gv_d hv).2.2.1.2.2.1 _ (tv_nx hk ht hn)).2 0 (by omega)
    · cases h
  · cases h
    omega
theorem c_56 (hR : mj_Rt mp_R Rf) (h : RC fb vb (K, P, E, N, S, M, C, O, L) I) {x : Nat} (hk : N.2.2 ≤ 1036) (hx : x < N.2.2) (hQ : Q (.inl (some (.int (nI (N.2.1 x))))) (sh59, I, Lg, Rf, nc, ns)) : mj_call X mj_P (mj_bi X) (d + 1) 56 [.ref 2, .int (nI x)] (sh59, I, Lg, Rf, nc, ns) Q := by
  have hr := mc_rf hR
  obtain ⟨st, ⟨c1, c2, c3, c4, c5, c6⟩, -⟩ := (rc_d h).2.2.2.1
  have s4 := c4 x hx
  have s5 := c5 (x + 1) (by omega)
  have e1 : (nI (x + 1)).toNatClampNeg = x + 1 := nI_clamp (by omega)
  have e2 : (nI x).toNatClampNeg = x := nI_clamp (by omega)
  have e3 : nI (st (x + 1)) - nI (st x) = nI (N.2.1 x) := by
    rw [s4.1, pk_sub (by omega), Nat.add_sub_cancel_left]
  refine mj_enter (z := (2, [], mb_56)) (by decide) rfl rfl ?_
  refine mj_blk rfl ?_
  simp +decide only [mjs_0, mjs_1, mjs_2, mjs_3, mjs_ble, true_and, Bool.false_eq_true, if_false, if_true, Nat.reduceAdd, Nat.reduceSub, Nat.reduceLeDiff, false_implies, true_implies, not_false_eq_true, not_true_eq_false, and_true, mc_sh, hr, mjs_up_at, mjs_up_c, mjs_up_f, nI_1, e1, e2, c3 (x + 1) (by omega), c3 x (by omega), e3]
  exact ⟨nI_in (by omega) (by decide), nI_in (by omega) (by decide), hQ⟩
theorem cq_42 (hR : mj_Rt mp_R Rf) (hv : gv (K, P, E, N, S, M, C, O, L)) (h : RC fb vb (K, P, E, N, S, M, C, O, L) I) (hr' : nc + 1 ≤ X.2.2.1 ∧ ns + 6 ≤ X.2.2.2) (ht : tv N.2.2 t) (hQ1 : ∀ c, chn N t = some c → Q (.inl (some (.int (nI c)))) (sh59, I, Lg, Rf, nc, ns)) (hQ0 : chn N t = none → ∀ I', RCf fb vb (K, P, E, N, S, M, C, O, L) I' → Q (.inr 500) (sh59, I', Lg, Rf, nc + 1, ns + 6)) : mj_call X mj_P (mj_bi X) (d + 2) 42 [.ref 28, .int (nI t)] (sh59, I, Lg, Rf, nc, ns) Q := by
  have hr := mc_rf hR
  have hk : N.2.2 ≤ 1036 := (gv_d hv).2.2.1.2.1
  have htl := tv_lt hk ht
  unfold chn at hQ1 hQ0
  refine mj_enter (z := (3, [], mb_42)) (by decide) rfl rfl ?_
  refine mj_blk rfl ?_
  simp +decide only [mjs_0, mjs_1, mjs_2, mjs_3, mjs_ble, true_and, Bool.false_eq_true, if_false, if_true, Nat.reduceAdd, Nat.reduceSub, Nat.reduceLeDiff, false_implies, true_implies, not_false_eq_true, not_true_eq_false, and_true]
  refine c_186 (by omega) ?_
  by_cases hn : t / 65536 % 2 = 1
  · rw [if_pos hn] at hQ1 hQ0 ⊢
    have hx := tv_nx hk ht hn
    obtain ⟨x, hxe⟩ : ∃ x, x = t % 65536 := ⟨_, rfl⟩
    rw [← hxe] at hx hQ1 hQ0
    have lx := ((gv_d hv).2.2.1.2.2.1 x hx).1
    simp +decide only [mjs_0, mjs_1, mjs_2, mjs_3, mjs_ble, true_and, Bool.false_eq_true, if_false, if_true, Nat.reduceAdd, Nat.reduceSub, Nat.reduceLeDiff, false_implies, true_implies, not_false_eq_true, not_true_eq_false, and_true]
    refine mj_blk rfl ?_
    simp +decide only [mjs_0, mjs_1, mjs_2, mjs_3, mjs_ble, true_and, Bool.false_eq_true, if_false, if_true, Nat.reduceAdd, Nat.reduceSub, Nat.reduceLeDiff, false_implies, true_implies, not_false_eq_true, not_true_eq_false, and_true, mc_sh, hr, mjs_up_at, mjs_up_c, mjs_up_f, bt_65535, ← hxe]
    refine c_56 hR h hk hx ?_
    simp +decide only [mjs_0, mjs_1, mjs_2, mjs_3, mjs_ble, true_and, Bool.false_eq_true, if_false, if_true, Nat.reduceAdd, Nat.reduceSub, Nat.reduceLeDiff, false_implies, true_implies, not_false_eq_true, not_true_eq_false, and_true]
    by_cases e1 : N.2.1 x = 1
    · rw [if_pos e1] at hQ1
      obtain ⟨st, ⟨c1, c2, c3, c4, c5, c6⟩, -⟩ := (rc_d h).2.2.2.1
      have s4 := c4 x hx
      have s5 := c5 (x + 1) (by omega)
      obtain ⟨l1, l2⟩ := c6 x 0 hx (by omega)
      have ex : (nI x).toNatClampNeg = x := nI_clamp (by omega)
      have es : (nI (st x)).toNatClampNeg = st x := nI_clamp (by omega)
      rw [Nat.add_zero] at l1
      simp +decide only [mjs_0, mjs_1, mjs_2, mjs_3, mjs_ble, true_and, Bool.false_eq_true, if_false, if_true, Nat.reduceAdd, Nat.reduceSub, Nat.reduceLeDiff, false_implies, true_implies, not_false_eq_true, not_true_eq_false, and_true, e1]
      refine mj_blk rfl ?_
      simp +decide only [mjs_0, mjs_1, mjs_2, mjs_3, mjs_ble, true_and, Bool.false_eq_true, if_false, if_true, Nat.reduceAdd, Nat.reduceSub, Nat.reduceLeDiff, false_implies, true_implies, not_false_eq_true, not_true_eq_false, and_true, mc_sh, hr, mjs_up_at, mjs_up_c, mjs_up_f, ex, c3 x (by omega), es, l1]
      refine ⟨nI_in (by omega) (by decide), nI_in (by omega) (by decide), mj_blk rfl ?_⟩
      simp +decide only [mjs_0, mjs_1, mjs_2, mjs_3, mjs_ble, true_and, Bool.false_eq_true, if_false, if_true, Nat.reduceAdd, Nat.reduceSub, Nat.reduceLeDiff, false_implies, true_implies, not_false_eq_true, not_true_eq_false, and_true]
      exact hQ1 _ rfl
    · rw [if_neg e1] at hQ0
      have n1 : ¬ nI (N.2.1 x) = 1 := fun q => e1 ((nI_eq (by omega) (by decide)).mp (show nI (N.2.1 x) = nI 1 from q))
      refine ⟨fun _ => mj_blk rfl ?_, fun q => absurd n1 q⟩
      simp +decide only [mjs_0, mjs_1, mjs_2, mjs_3, mjs_ble, true_and, Bool.false_eq_true, if_false, if_true, Nat.reduceAdd, Nat.reduceSub, Nat.reduceLeDiff, false_implies, true_implies, not_false_eq_true, not_true_eq_false, and_true, mc_sh, hr, mjs_up_at, mjs_up_c, mjs_up_f]
      refine c_80 s59_1 hr' ?_
      simp +decide only [mjs_0, mjs_1, mjs_2, mjs_3, mjs_ble, true_and, Bool.false_eq_true, if_false, if_true, Nat.reduceAdd, Nat.reduceSub, Nat.reduceLeDiff, false_implies, true_implies, not_false_eq_true, not_true_eq_false, and_true]
      exact hQ0 rfl _ (rc_f hv h)
  · rw [if_neg hn] at hQ1 hQ0 ⊢
    simp +decide only [mjs_0, mjs_1, mjs_2, mjs_3, mjs_ble, true_and, Bool.false_eq_true, if_false, if_true, Nat.reduceAdd, Nat.reduceSub, Nat.reduceLeDiff, false_implies, true_implies, not_false_eq_true, not_true_eq_false, and_true]
    refine mj_blk rfl ?_
    simp +decide only [mjs_0, mjs_1, mjs_2, mjs_3, mjs_ble, true_and, Bool.false_eq_true, if_false, if_true, Nat.reduceAdd, Nat.reduceSub, Nat.reduceLeDiff, false_implies, true_implies, not_false_eq_true, not_true_eq_false, and_true, bt_255]
    exact hQ1 _ rfl
/-- the reference's character, before the space behind it -/
theorem r_160 (hM' : mj_Rt mm_R Rf) (hv : gv (K, P, E, N, S, M, C, O, L)) (hJ : RR H (K, P, E, N, S, M, C, O, L) J) (ht : tv N.2.2 t) {D : Nat} (hq1 : ∀ c, chn N t = some c → mj_rn X (mj_hd []) (mj_call X mj_P (mj_bi X) (D + 6)) mb_160 77 [some (.ref 36), none, none, some (.int (nI c)), none] [] (sh59, J, Lg, Rf, nc, ns) Q) (hq0 : chn N t = none → ∀ J', RD H (K, P, E, N, S, M, C, O, L) J' → Q (.inl (some (.int 0))) (sh59, J', Lg, Rf, nc, ns)) : mj_rn X (mj_hd []) (mj_call X mj_P (mj_bi X) (D + 6)) mb_160 14 [some (.ref 36), some (.int (nI (rt t))), none, none, none] [] (sh59, J, Lg, Rf, nc, ns) Q := by
  have hm := mm_rf hM'
  have hk : N.2.2 ≤ 1036 := (gv_d hv).2.2.1.2.1
  have hk1 : 36 ≤ N.2.2 := (gv_d hv).2.2.1.1
  have htl := rt_lt hk hk1 ht
  obtain ⟨b1, b2⟩ := rt_pl hk hk1 ht
  have b3 := rb_lt hk hk1 b2
  have hpl : pl t = (if t / 1048576 % 2 = 1 then t - 1048576 else t) := rfl
  have er : nI (rb (pl t)) - nI (rb (pl t)) / 256 * 256 = nI (rb (pl t) % 256) := pk_rem (d := 256) (by omega) (by decide) (by decide)
  have htv := tv_lt hk ht
  unfold chn at hq1 hq0
  refine mj_blk rfl ?_
  simp +decide only [mjs_0, mjs_1, mjs_2, mjs_3, mjs_ble, true_and, Bool.false_eq_true, if_false, if_true, Nat.reduceAdd, Nat.reduceSub, Nat.reduceLeDiff, false_implies, true_implies, not_false_eq_true, not_true_eq_false, and_true, mm_sh, hm, mjs_up_at, mjs_up_c, mjs_up_f]
  refine r_123 (by omega) ?_
  simp +decide only [mjs_0, mjs_1, mjs_2, mjs_3, mjs_ble, true_and, Bool.false_eq_true, if_false, if_true, Nat.reduceAdd, Nat.reduceSub, Nat.reduceLeDiff, false_implies, true_implies, not_false_eq_true, not_true_eq_false, and_true, mm_sh, hm, mjs_up_at, mjs_up_c, mjs_up_f, b1, er]
  by_cases hn : t / 65536 % 2 = 1
  · rw [if_pos hn] at hq1 hq0
    have hx := tv_nx hk ht hn
    obtain ⟨x, hxe⟩ : ∃ x, x = t % 65536 := ⟨_, rfl⟩
    rw [← hxe] at hx hq1 hq0
    have epl : pl t = 65536 + x := by
      unfold tv tb at ht
      rw [hpl]
      split <;> omega
    have erb : rb (pl t) = 65536 + rp x := by
      rw [epl]
      unfold rb
      rw [if_neg (by omega), if_neg (by omega), if_neg (by omega), Nat.add_sub_cancel_left]
    have hrx := rp_lt hx hk1
    obtain ⟨rn, rl, n1, n2⟩ := (rr_d hJ).2.2.2.1
    obtain ⟨m1, m2, m3⟩ := n1.2.2 (rp x) hrx
    obtain ⟨m4, m5⟩ := n2 x hx
    rw [m4] at m1
    have m1' : J 41 (rp x) = nI (N.2.1 x) := m1
    have lx := ((gv_d hv).2.2.1.2.2.1 x hx).1
    have ei : nI (65536 + rp x) - 65536 = nI (rp x) := by
      rw [show (65536 : Int32) = nI 65536 from rfl, pk_sub (by omega), Nat.add_sub_cancel_left]
    have ex : (nI (rp x)).toNatClampNeg = rp x := nI_clamp (by omega)
    rw [erb]
    refine ⟨fun q => absurd q (nI_nlt (a := 65536 + rp x) (b := 65536) (by omega) (by omega)), fun _ => mj_blk rfl ?_⟩
    simp +decide only [mjs_0, mjs_1, mjs_2, mjs_3, mjs_ble, true_and, Bool.false_eq_true, if_false, if_true, Nat.reduceAdd, Nat.reduceSub, Nat.reduceLeDiff, false_implies, true_implies, not_false_eq_true, not_true_eq_false, and_true, mm_sh, hm, mjs_up_at, mjs_up_c, mjs_up_f]
    refine ⟨fun q => absurd q (nI_ge (a := 65536 + rp x) (b := 131072) (by omega) (by decide)), fun _ => mj_blk rfl ?_⟩
    simp +decide only [mjs_0, mjs_1, mjs_2, mjs_3, mjs_ble, true_and, Bool.false_eq_true, if_false, if_true, Nat.reduceAdd, Nat.reduceSub, Nat.reduceLeDiff, false_implies, true_implies, not_false_eq_true, not_true_eq_false, and_true, mm_sh, hm, mjs_up_at, mjs_up_c, mjs_up_f, ei, ex, m1']
    refine ⟨nI_in (by omega) (by decide), ?_⟩
    by_cases e1 : N.2.1 x = 1
    · rw [if_pos e1] at hq1
      obtain ⟨m6, m7⟩ := m3 0 (by omega)
      rw [m5 0 (by omega), Nat.add_zero] at m6
      have m6' : J 40 (40 * rp x) &&& 255 = nI (N.1 x 0) := m6
      have e40 : (40 : Int32) * nI (rp x) = nI (40 * rp x) := pk_mul 40 _
      have e41 : (nI (40 * rp x)).toNatClampNeg = 40 * rp x := nI_clamp (by omega)
      rw [e1]
      refine ⟨fun _ => mj_blk rfl ?_, fun q => absurd rfl q⟩
      simp +decide only [mjs_0, mjs_1, mjs_2, mjs_3, mjs_ble, true_and, Bool.false_eq_true, if_false, if_true, Nat.reduceAdd, Nat.reduceSub, Nat.reduceLeDiff, false_implies, true_implies, not_false_eq_true, not_true_eq_false, and_true, mm_sh, hm, mjs_up_at, mjs_up_c, mjs_up_f, e40, e41, m6']
      exact ⟨nI_in (by omega) (by decide), mj_nv (hq1 _ rfl)⟩
    · rw [if_neg e1] at hq0
      have n1 : ¬ nI (N.2.1 x) = 1 := fun q => e1 ((nI_eq (by omega) (by decide)).mp (show nI (N.2.1 x) = nI 1 from q))
      refine ⟨fun q => absurd q n1, fun _ => mj_blk rfl ?_⟩
      simp +decide only [mjs_0, mjs_1, mjs_2, mjs_3, mjs_ble, true_and, Bool.false_eq_true, if_false, if_true, Nat.reduceAdd, Nat.reduceSub, Nat.reduceLeDiff, false_implies, true_implies, not_false_eq_true, not_true_eq_false, and_true, mm_sh, hm, mjs_up_at, mjs_up_c, mjs_up_f]
      refine c_106 s59_36 ?_
      rw [if_pos (rr_d hJ).1.2.2.2]
      simp +decide only [mjs_0, mjs_1, mjs_2, mjs_3, mjs_ble, true_and, Bool.false_eq_true, if_false, if_true, Nat.reduceAdd, Nat.reduceSub, Nat.reduceLeDiff, false_implies, true_implies, not_false_eq_true, not_true_eq_false, and_true, mm_sh, hm, mjs_up_at, mjs_up_c, mjs_up_f]
      exact hq0 rfl _ (rr_f (f := 6) (by decide) (by decide) hJ)
  · rw [if_neg hn] at hq1 hq0
    have epl : pl t < 3584 ∧ pl t % 256 = t % 256 := by
      unfold tv tb at ht
      rw [hpl]
      split <;> omega
    have hz := hq1 _ rfl
    by_cases hc : pl t < 3328
    · have erb : rb (pl t) = pl t := by
        unfold rb
        rw [if_pos hc]
      rw [erb, epl.2]
      exact ⟨fun _ => mj_nv hz, fun q => absurd (nI_lt (a := pl t) (b := 65536) (by omega) (by decide)) q⟩
    · have erb : rb (pl t) = 131072 + (pl t - 3328) := by
        unfold rb
        rw [if_neg hc, if_pos epl.1]
      have em : rb (pl t) % 256 = t % 256 := by omega
      rw [em, erb]
      refine ⟨fun q => absurd q (nI_nlt (a := 131072 + (pl t - 3328)) (b := 65536) (by omega) (by omega)), fun _ => mj_blk rfl ?_⟩
      simp +decide only [mjs_0, mjs_1, mjs_2, mjs_3, mjs_ble, true_and, Bool.false_eq_true, if_false, if_true, Nat.reduceAdd, Nat.reduceSub, Nat.reduceLeDiff, false_implies, true_implies, not_false_eq_true, not_true_eq_false, and_true, mm_sh, hm, mjs_up_at, mjs_up_c, mjs_up_f]
      exact ⟨fun _ => mj_nv hz, fun q => absurd (nI_le (a := 131072) (b := 131072 + (pl t - 3328)) (by omega) (by omega)) q⟩
theorem rx_160 (hM' : mj_Rt mm_R Rf) {g g2 : sg} {kk c : Nat} (hv : gv (K, P, E, N, S, M, C, O, L)) (ht : tv N.2.2 t) (h1 : RS X Rf 6 117 [.ref 36] g (some (.int (nI (rt t)))) (K, P, E, N, S, M, C, O, L)) (hc : chn N t = some c) (h2 : RX X Rf kk 158 [.ref 36] (K, P, E, N, S, M, C, O, L) na none g2 na) : RX X Rf (kk + 7) 160 [.ref 36] g na (some (.int (nI c))) g2 na := by
  have hm := mm_rf hM'
  refine rx_in (z := 5) (by decide) rfl rfl rfl ?_
  intro H Lg d nc ns J Q hJ hA hq
  obtain ⟨D, hD, hDk⟩ : ∃ D, d + (kk + 6) = D + 6 ∧ kk ≤ D := ⟨d + kk, by omega, by omega⟩
  rw [hD]
  try rw [hD] at hq
  refine mj_blk rfl ?_
  simp +decide only [mjs_0, mjs_1, mjs_2, mjs_3, mjs_ble, true_and, Bool.false_eq_true, if_false, if_true, Nat.reduceAdd, Nat.reduceSub, Nat.reduceLeDiff, false_implies, true_implies, not_false_eq_true, not_true_eq_false, and_true, mm_sh, hm, mjs_up_at, mjs_up_c, mjs_up_f]
  refine h1 H Lg D nc ns J _ hJ (fun J1 c1 => ?_)
  simp +decide only [mjs_0, mjs_1, mjs_2, mjs_3, mjs_ble, true_and, Bool.false_eq_true, if_false, if_true, Nat.reduceAdd, Nat.reduceSub, Nat.reduceLeDiff, false_implies, true_implies, not_false_eq_true, not_true_eq_false, and_true, mm_sh, hm, mjs_up_at, mjs_up_c, mjs_up_f, (rr_d c1).1.2.2.2]
  refine mj_nv (r_160 hM' hv c1 ht (fun c' e' => ?_) (fun e' => by rw [hc] at e'; cases e'))
  have : c' = c := by
    rw [hc] at e'
    cases e'
    rfl
  subst this
  refine mj_blk rfl ?_
  simp +decide only [mjs_0, mjs_1, mjs_2, mjs_3, mjs_ble, true_and, Bool.false_eq_true, if_false, if_true, Nat.reduceAdd, Nat.reduceSub, Nat.reduceLeDiff, false_implies, true_implies, not_false_eq_true, not_true_eq_false, and_true, mm_sh, hm, mjs_up_at, mjs_up_c, mjs_up_f]
  refine rx_at h2 (by omega) c1 trivial (fun H2 J2 c3 c4 _ => ?_)
  simp +decide only [mjs_0, mjs_1, mjs_2, mjs_3, mjs_ble, true_and, Bool.false_eq_true, if_false, if_true, Nat.reduceAdd, Nat.reduceSub, Nat.reduceLeDiff, false_implies, true_implies, not_false_eq_true, not_true_eq_false, and_true, mm_sh, hm, mjs_up_at, mjs_up_c, mjs_up_f]
  exact hq H2 J2 c3 c4 trivial
theorem ryi_160a (hM' : mj_Rt mm_R Rf) {g g2 : sg} {kk : Nat} (h1 : RF X Rf 6 117 [.ref 36] g (some (.int (-1))) g2) : RYi X Rf (kk + 7) 160 [.ref 36] g na g2 := by
  have hm := mm_rf hM'
  intro H Lg d nc ns J Q hJ hA hq
  obtain ⟨D, hD⟩ : ∃ D, d + (kk + 7) = D + 7 := ⟨d + kk, by omega⟩
  rw [hD]
  refine mj_enter (z := (5, [], mb_160)) (by decide) rfl rfl ?_
  refine mj_blk rfl ?_
  simp +decide only [mjs_0, mjs_1, mjs_2, mjs_3, mjs_ble, true_and, Bool.false_eq_true, if_false, if_true, Nat.reduceAdd, Nat.reduceSub, Nat.reduceLeDiff, false_implies, true_implies, not_false_eq_true, not_true_eq_false, and_true, mm_sh, hm, mjs_up_at, mjs_up_c, mjs_up_f]
  refine h1 H Lg D nc ns J _ hJ (fun J1 c1 => ?_)
  simp +decide only [mjs_0, mjs_1, mjs_2, mjs_3, mjs_ble, true_and, Bool.false_eq_true, if_false, if_true, Nat.reduceAdd, Nat.reduceSub, Nat.reduceLeDiff, false_implies, true_implies, not_false_eq_true, not_true_eq_false, and_true, mm_sh, hm, mjs_up_at, mjs_up_c, mjs_up_f]
  refine ⟨fun q => absurd q (rd_nle c1), fun _ => mj_blk rfl ?_⟩
  simp +decide only [mjs_0, mjs_1, mjs_2, mjs_3, mjs_ble, true_and, Bool.false_eq_true, if_false, if_true, Nat.reduceAdd, Nat.reduceSub, Nat.reduceLeDiff, false_implies, true_implies, not_false_eq_true, not_true_eq_false, and_true, mm_sh, hm, mjs_up_at, mjs_up_c, mjs_up_f]
  exact hq J1 _ c1
theorem ryi_160b (hM' : mj_Rt mm_R Rf) {g : sg} {kk : Nat} (hv : gv (K, P, E, N, S, M, C, O, L)) (ht : tv N.2.2 t) (h1 : RS X Rf 6 117 [.ref 36] g (some (.int (nI (rt t)))) (K, P, E, N, S, M, C, O, L)) (hc : chn N t = none) : RYi X Rf (kk + 7) 160 [.ref 36] g na (K, P, E, N, S, M, C, O, L) := by
  have hm := mm_rf hM'
  intro H Lg d nc ns J Q hJ hA hq
  obtain ⟨D, hD⟩ : ∃ D, d + (kk + 7) = D + 7 := ⟨d + kk, by omega⟩
  rw [hD]
  refine mj_enter (z := (5, [], mb_160)) (by decide) rfl rfl ?_
  refine mj_blk rfl ?_
  simp +decide only [mjs_0, mjs_1, mjs_2, mjs_3, mjs_ble, true_and, Bool.false_eq_true, if_false, if_true, Nat.reduceAdd, Nat.reduceSub, Nat.reduceLeDiff, false_implies, true_implies, not_false_eq_true, not_true_eq_false, and_true, mm_sh, hm, mjs_up_at, mjs_up_c, mjs_up_f]
  refine h1 H Lg D nc ns J _ hJ (fun J1 c1 => ?_)
  simp +decide only [mjs_0, mjs_1, mjs_2, mjs_3, mjs_ble, true_and, Bool.false_eq_true, if_false, if_true, Nat.reduceAdd, Nat.reduceSub, Nat.reduceLeDiff, false_implies, true_implies, not_false_eq_true, not_true_eq_false, and_true, mm_sh, hm, mjs_up_at, mjs_up_c, mjs_up_f, (rr_d c1).1.2.2.2]
  exact mj_nv (r_160 hM' hv c1 ht (fun c' e' => by rw [hc] at e'; cases e') (fun _ J2 c2 => hq J2 _ c2))
theorem ryi_160c (hM' : mj_Rt mm_R Rf) {g g2 : sg} {kk c : Nat} (hv : gv (K, P, E, N, S, M, C, O, L)) (ht : tv N.2.2 t) (h1 : RS X Rf 6 117 [.ref 36] g (some (.int (nI (rt t)))) (K, P, E, N, S, M, C, O, L)) (hc : chn N t = some c) (h2 : RY X Rf kk 158 [.ref 36] (K, P, E, N, S, M, C, O, L) na none g2) : RYi X Rf (kk + 7) 160 [.ref 36] g na g2 := by
  have hm := mm_rf hM'
  intro H Lg d nc ns J Q hJ hA hq
  obtain ⟨D, hD, hDk⟩ : ∃ D, d + (kk + 7) = D + 7 ∧ kk ≤ D := ⟨d + kk, by omega, by omega⟩
  rw [hD]
  refine mj_enter (z := (5, [], mb_160)) (by decide) rfl rfl ?_
  refine mj_blk rfl ?_
  simp +decide only [mjs_0, mjs_1, mjs_2, mjs_3, mjs_ble, true_and, Bool.false_eq_true, if_false, if_true, Nat.reduceAdd, Nat.reduceSub, Nat.reduceLeDiff, false_implies, true_implies, not_false_eq_true, not_true_eq_false, and_true, mm_sh, hm, mjs_up_at, mjs_up_c, mjs_up_f]
  refine h1 H Lg D nc ns J _ hJ (fun J1 c1 => ?_)
  simp +decide only [mjs_0, mjs_1, mjs_2, mjs_3, mjs_ble, true_and, Bool.false_eq_true, if_false, if_true, Nat.reduceAdd, Nat.reduceSub, Nat.reduceLeDiff, false_implies, true_implies, not_false_eq_true, not_true_eq_false, and_true, mm_sh, hm, mjs_up_at, mjs_up_c, mjs_up_f, (rr_d c1).1.2.2.2]
  refine mj_nv (r_160 hM' hv c1 ht (fun c' e' => ?_) (fun e' => by rw [hc] at e'; cases e'))
  refine mj_blk rfl ?_
  simp +decide only [mjs_0, mjs_1, mjs_2, mjs_3, mjs_ble, true_and, Bool.false_eq_true, if_false, if_true, Nat.reduceAdd, Nat.reduceSub, Nat.reduceLeDiff, false_implies, true_implies, not_false_eq_true, not_true_eq_false, and_true, mm_sh, hm, mjs_up_at, mjs_up_c, mjs_up_f]
  refine ry_at h2 (by omega) c1 trivial (fun J2 c3 => ?_)
  simp +decide only [mjs_0, mjs_1, mjs_2, mjs_3, mjs_ble, true_and, Bool.false_eq_true, if_false, if_true, Nat.reduceAdd, Nat.reduceSub, Nat.reduceLeDiff, false_implies, true_implies, not_false_eq_true, not_true_eq_false, and_true, mm_sh, hm, mjs_up_at, mjs_up_c, mjs_up_f]
  exact hq J2 _ c3
/-- number's frame in the reference -/
theorem rx_161 (hM' : mj_Rt mm_R Rf) {kk : Nat} {x : Int32} (hK : K.2.2 < 40) (hK' : K'.2 = (K.2.1, K.2.2 + 1)) (h : RX X Rf kk 162 [.ref 36] ((K.1, K.2.1, K.2.2 + 1), P, E, N, S, M, C, O, L) na (some (.int x)) (K', P', E, N', S', M, C', O, L') na) : RX X Rf (kk + 2) 161 [.ref 36] (K, P, E, N, S, M, C, O, L) na (some (.int x)) ((K'.1, K'.2.1, K.2.2), P', E, N', S', M, C', O, L') na := by
  have hm := mm_rf hM'
  refine rx_in (z := 2) (by decide) rfl rfl rfl ?_
  intro H Lg d nc ns J Q hJ hA hq
  obtain ⟨D, hD, hDk⟩ : ∃ D, d + (kk + 1) = D + 1 ∧ kk ≤ D := ⟨d + kk, by omega, by omega⟩
  rw [hD]
  try rw [hD] at hq
  have j38 : J 36 38 = nI K.2.2 := (rr_d hJ).1.2.2.1
  have ne : ¬ nI K.2.2 = 40 := fun q => absurd ((nI_eq (b := 40) (by omega) (by decide)).mp q) (by omega)
  refine mj_blk rfl ?_
  simp +decide only [mjs_0, mjs_1, mjs_2, mjs_3, mjs_ble, true_and, Bool.false_eq_true, if_false, if_true, Nat.reduceAdd, Nat.reduceSub, Nat.reduceLeDiff, false_implies, true_implies, not_false_eq_true, not_true_eq_false, and_true, mm_sh, hm, mjs_up_at, mjs_up_c, mjs_up_f, j38]
  refine ⟨fun _ => mj_blk rfl ?_, fun q => absurd ne q⟩
  simp +decide only [mjs_0, mjs_1, mjs_2, mjs_3, mjs_ble, true_and, Bool.false_eq_true, if_false, if_true, Nat.reduceAdd, Nat.reduceSub, Nat.reduceLeDiff, false_implies, true_implies, not_false_eq_true, not_true_eq_false, and_true, mm_sh, hm, mjs_up_at, mjs_up_c, mjs_up_f, (rr_d hJ).1.2.2.2]
  refine mj_blk rfl ?_
  simp +decide only [mjs_0, mjs_1, mjs_2, mjs_3, mjs_ble, true_and, Bool.false_eq_true, if_false, if_true, Nat.reduceAdd, Nat.reduceSub, Nat.reduceLeDiff, false_implies, true_implies, not_false_eq_true, not_true_eq_false, and_true, mm_sh, hm, mjs_up_at, mjs_up_c, mjs_up_f, j38, nI_1]
  refine rx_at h (by omega) (rr_K hJ) trivial (fun H1 J1 c1 c2 _ => ?_)
  have j38' : J1 36 38 = nI (K.2.2 + 1) := by
    have := (rr_d c2).1.2.2.1
    rw [hK'] at this
    exact this
  simp +decide only [mjs_0, mjs_1, mjs_2, mjs_3, mjs_ble, true_and, Bool.false_eq_true, if_false, if_true, Nat.reduceAdd, Nat.reduceSub, Nat.reduceLeDiff, false_implies, true_implies, not_false_eq_true, not_true_eq_false, and_true, mm_sh, hm, mjs_up_at, mjs_up_c, mjs_up_f, j38', nI_pred]
  exact hq H1 _ c1 (rr_K c2) trivial
theorem ry_161 (hM' : mj_Rt mm_R Rf) {kk : Nat} {g' : sg} (hK : K.2.2 < 40) (h : RY X Rf kk 162 [.ref 36] ((K.1, K.2.1, K.2.2 + 1), P, E, N, S, M, C, O, L) na (some (.int 0)) g') : RY X Rf (kk + 2) 161 [.ref 36] (K, P, E, N, S, M, C, O, L) na (some (.int 0)) g' := by
  have hm := mm_rf hM'
  refine ry_in (z := 2) (by decide) rfl rfl rfl ?_
  intro H Lg d nc ns J Q hJ hA hq
  obtain ⟨D, hD, hDk⟩ : ∃ D, d + (kk + 1) = D + 1 ∧ kk ≤ D := ⟨d + kk, by omega, by omega⟩
  rw [hD]
  try rw [hD] at hq
  have j38 : J 36 38 = nI K.2.2 := (rr_d hJ).1.2.2.1
  have ne : ¬ nI K.2.2 = 40 := fun q => absurd ((nI_eq (b := 40) (by omega) (by decide)).mp q) (by omega)
  refine mj_blk rfl ?_
  simp +decide only [mjs_0, mjs_1, mjs_2, mjs_3, mjs_ble, true_and, Bool.false_eq_true, if_false, if_true, Nat.reduceAdd, Nat.reduceSub, Nat.reduceLeDiff, false_implies, true_implies, not_false_eq_true, not_true_eq_false, and_true, mm_sh, hm, mjs_up_at, mjs_up_c, mjs_up_f, j38]
  refine ⟨fun _ => mj_blk rfl ?_, fun q => absurd ne q⟩
  simp +decide only [mjs_0, mjs_1, mjs_2, mjs_3, mjs_ble, true_and, Bool.false_eq_true, if_false, if_true, Nat.reduceAdd, Nat.reduceSub, Nat.reduceLeDiff, false_implies, true_implies, not_false_eq_true, not_true_eq_false, and_true, mm_sh, hm, mjs_up_at, mjs_up_c, mjs_up_f, (rr_d hJ).1.2.2.2]
  refine mj_blk rfl ?_
  simp +decide only [mjs_0, mjs_1, mjs_2, mjs_3, mjs_ble, true_and, Bool.false_eq_true, if_false, if_true, Nat.reduceAdd, Nat.reduceSub, Nat.reduceLeDiff, false_implies, true_implies, not_false_eq_true, not_true_eq_false, and_true, mm_sh, hm, mjs_up_at, mjs_up_c, mjs_up_f, j38, nI_1]
  refine ry_at h (by omega) (rr_K hJ) trivial (fun J1 c1 => ?_)
  simp +decide only [mjs_0, mjs_1, mjs_2, mjs_3, mjs_ble, true_and, Bool.false_eq_true, if_false, if_true, Nat.reduceAdd, Nat.reduceSub, Nat.reduceLeDiff, false_implies, true_implies, not_false_eq_true, not_true_eq_false, and_true, mm_sh, hm, mjs_up_at, mjs_up_c, mjs_up_f]
  exact hq _ (rd_up c1 (by decide))
/-- number at the deepest level -/
theorem nu_0 (hR : mj_Rt mp_R Rf) (hM' : mj_Rt mm_R Rf) : NU X Rf vb 3 3 0 := by
  have hr := mc_rf hR
  have hm := mm_rf hM'
  intro fb K P E N S M C O L nc ns Lg I Q D hD hn hr' hv hw hp h hQ1 hQ3
  obtain ⟨d, rfl⟩ : ∃ d, D = d + 3 := ⟨D - 3, by omega⟩
  have k3 : I 1 3 = nI K.2.2 := (rc_d h).1.2.2.1
  refine mj_enter (z := (4, [], mb_38)) (by decide) rfl rfl ?_
  refine mj_blk rfl ?_
  simp +decide only [mjs_0, mjs_1, mjs_2, mjs_3, mjs_ble, true_and, Bool.false_eq_true, if_false, if_true, Nat.reduceAdd, Nat.reduceSub, Nat.reduceLeDiff, false_implies, true_implies, not_false_eq_true, not_true_eq_false, and_true, mc_sh, hr, mjs_up_at, mjs_up_c, mjs_up_f]
  refine c_78 (k := K.2.2) (by omega) k3 hr' (fun hh => absurd hh (by omega)) (fun _ => ?_)
  simp +decide only [mjs_0, mjs_1, mjs_2, mjs_3, mjs_ble, true_and, Bool.false_eq_true, if_false, if_true, Nat.reduceAdd, Nat.reduceSub, Nat.reduceLeDiff, false_implies, true_implies, not_false_eq_true, not_true_eq_false, and_true]
  refine hQ3 _ _ (rc_f hv h) (ry_in (z := 2) (k := 2) (by decide) rfl rfl rfl ?_)
  intro H Lg d nc ns J Q hJ hA hq
  have j38 : J 36 38 = 40 := by
    have := (rr_d hJ).1.2.2.1
    rw [show K.2.2 = 40 by omega] at this
    exact this
  refine mj_blk rfl ?_
  simp +decide only [mjs_0, mjs_1, mjs_2, mjs_3, mjs_ble, true_and, Bool.false_eq_true, if_false, if_true, Nat.reduceAdd, Nat.reduceSub, Nat.reduceLeDiff, false_implies, true_implies, not_false_eq_true, not_true_eq_false, and_true, mm_sh, hm, mjs_up_at, mjs_up_c, mjs_up_f, j38]
  refine mj_blk rfl ?_
  simp +decide only [mjs_0, mjs_1, mjs_2, mjs_3, mjs_ble, true_and, Bool.false_eq_true, if_false, if_true, Nat.reduceAdd, Nat.reduceSub, Nat.reduceLeDiff, false_implies, true_implies, not_false_eq_true, not_true_eq_false, and_true, mm_sh, hm, mjs_up_at, mjs_up_c, mjs_up_f]
  refine c_106 s59_36 ?_
  rw [if_pos (rr_d hJ).1.2.2.2]
  simp +decide only [mjs_0, mjs_1, mjs_2, mjs_3, mjs_ble, true_and, Bool.false_eq_true, if_false, if_true, Nat.reduceAdd, Nat.reduceSub, Nat.reduceLeDiff, false_implies, true_implies, not_false_eq_true, not_true_eq_false, and_true, mm_sh, hm, mjs_up_at, mjs_up_c, mjs_up_f]
  refine mj_blk rfl ?_
  simp +decide only [mjs_0, mjs_1, mjs_2, mjs_3, mjs_ble, true_and, Bool.false_eq_true, if_false, if_true, Nat.reduceAdd, Nat.reduceSub, Nat.reduceLeDiff, false_implies, true_implies, not_false_eq_true, not_true_eq_false, and_true, mm_sh, hm, mjs_up_at, mjs_up_c, mjs_up_f]
  refine mj_blk rfl ?_
  simp +decide only [mjs_0, mjs_1, mjs_2, mjs_3, mjs_ble, true_and, Bool.false_eq_true, if_false, if_true, Nat.reduceAdd, Nat.reduceSub, Nat.reduceLeDiff, false_implies, true_implies, not_false_eq_true, not_true_eq_false, and_true, mm_sh, hm, mjs_up_at, mjs_up_c, mjs_up_f]
  exact hq _ (rr_f (f := 3) (by decide) (by decide) hJ)
end MJQU
