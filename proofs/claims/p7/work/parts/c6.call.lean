/-! RUN, as a call, in both -/
section MJRC
variable {L nc ns tk n : Nat} {xs : Nat → Int32} {Q : mj_Q} {I J H : Nat → Nat → Int32} {Lg : Nat → Nat → Int64} {Rf : Nat → Nat → Option Nat} {vb : Nat → Int32} {tx : Nat → Nat} {O : sgO} {cn : Nat → Int32}
theorem c_2x (hR : mj_Rt mp_R Rf) (hM' : mj_Rt mm_R Rf) (hV : VB vb) (hI : IDC vb tk n tx O cn I) (hr' : nc + 1 ≤ 601024 ∧ ns + 6 ≤ 7293034) {t : Int32} {D : Nat} (hD : 520 ≤ D)
    (hQ1 : t < 0 ∨ ¬ t ≤ 30000 → Q (.inr 501) (sh59, I, Lg, Rf, nc + 1, ns + 6))
    (hQ2 : ∀ I' v lim st mm tk' O' cn' nc' ns', lim ≤ 30000 → t = nI lim → nc' ≤ nc + 1 → ns' ≤ ns + 6 → IDC vb tk' 0 (fun _ => 0) O' cn' I' → RE (mj_X0 L xs) Rf 751 (g0 vb lim st mm n tx) tk' O' cn' → Q (.inl (some (.int v))) (sh59, I', Lg, Rf, nc', ns')) :
    mj_call (mj_X0 L xs) mj_P (mj_bi (mj_X0 L xs)) D 2 [.ref 0, .int t] (sh59, I, Lg, Rf, nc, ns) Q := by
  obtain ⟨d, rfl⟩ : ∃ d, D = (d + 4) + 1 := ⟨D - 5, by omega⟩
  have hr := mc_rf hR
  obtain ⟨hX, hN⟩ := lev_40 (X := mj_X0 L xs) (vb := vb) hR hM' rfl
  have hN' := (lev_all (X := mj_X0 L xs) (vb := vb) hR hM' rfl 39).2
  refine mj_enter (z := (6, [(11, 117, 120, 500, 3, 121)], mb_2)) (by decide) rfl rfl ?_
  refine mj_blk rfl ?_
  simp +decide only [mjs_0, mjs_1, mjs_2, mjs_3, mjs_ble, true_and, Bool.false_eq_true, if_false, if_true, Nat.reduceAdd, Nat.reduceSub, Nat.reduceLeDiff, false_implies, true_implies, not_false_eq_true, not_true_eq_false, and_true]
  refine c_7 hr' (fun q => mj_ret_out (by decide) (hQ1 q)) (fun q q' => ?_)
  obtain ⟨lim, hl, rfl⟩ := nI_of2 (n := 30000) (by decide) q q'
  simp +decide only [mjs_0, mjs_1, mjs_2, mjs_3, mjs_ble, true_and, Bool.false_eq_true, if_false, if_true, Nat.reduceAdd, Nat.reduceSub, Nat.reduceLeDiff, false_implies, true_implies, not_false_eq_true, not_true_eq_false, and_true, mc_sh, hr, mjs_up_at, mjs_up_c, mjs_up_f]
  refine c_8x hR hV hI hl (fun I1 st mm a1 a2 => ?_)
  simp +decide only [mjs_0, mjs_1, mjs_2, mjs_3, mjs_ble, true_and, Bool.false_eq_true, if_false, if_true, Nat.reduceAdd, Nat.reduceSub, Nat.reduceLeDiff, false_implies, true_implies, not_false_eq_true, not_true_eq_false, and_true]
  refine mj_nv (l_run (w1 := none) (w4 := none) (w5 := none) hR hM' hX hN hN' (by decide) (by omega) (by omega) hr' lim 0 I1 (0, lim, 0) [] [] (pmc, pml, 36) (fun _ x => vb x, fun _ => 0, 0, 0) (fun _ => 0, fun _ => 0, fun a => if a = 0 then 0 else mm, 0, 1, 0) (0, fun _ => 0, fun _ => 0) (0, fun _ => 0) ([], st, tx, n, 0) I1 Q (Nat.le_refl _) (Nat.le_refl _) rfl a1 ⟨Nat.le_refl _, fun l c _ hc => ?_⟩ (fun l hl => absurd hl (Nat.not_lt_zero _)) (Nat.le_refl _) rfl (by decide) a2 (fun I' v tk' O' cn' nc' ns' b1 b2 b3 b4 => hQ2 I' v lim st mm tk' O' cn' nc' ns' hl rfl b1 b2 b3 b4))
  show vb c ≠ _
  rw [(hV.2.1 c hc).1]
  decide
theorem r_178x (hM' : mj_Rt mm_R Rf) (hV : VB vb) (hJ : IDR H tk n tx O cn J) {lim st mm tk' : Nat} {O' : sgO} {cn' : Nat → Int32} (hl : lim ≤ 30000) (hE : RE (mj_X0 L xs) Rf 751 (g0 vb lim st mm n tx) tk' O' cn') {D : Nat} (hD : 760 ≤ D) (hQ : ∀ J' v, IDR H tk' 0 (fun _ => 0) O' cn' J' → Q (.inl (some (.int v))) (sh59, J', Lg, Rf, nc, ns)) :
    mj_call (mj_X0 L xs) mj_P (mj_bi (mj_X0 L xs)) D 178 [.ref 36, .int (nI lim)] (sh59, J, Lg, Rf, nc, ns) Q := by
  obtain ⟨d, rfl⟩ : ∃ d, D = (d + 751) + 1 := ⟨D - 752, by omega⟩
  have hm := mm_rf hM'
  obtain ⟨j1, ⟨j2, j3⟩, j4, j5, j6⟩ := hJ
  refine mj_enter (z := (3, [], mb_178)) (by decide) rfl rfl ?_
  refine mj_blk rfl ?_
  simp +decide only [mjs_0, mjs_1, mjs_2, mjs_3, mjs_ble, true_and, Bool.false_eq_true, if_false, if_true, Nat.reduceAdd, Nat.reduceSub, Nat.reduceLeDiff, false_implies, true_implies, not_false_eq_true, not_true_eq_false, and_true]
  refine ⟨fun q => absurd q (nI_pos (by omega)), fun _ => mj_blk rfl ?_⟩
  simp +decide only [mjs_0, mjs_1, mjs_2, mjs_3, mjs_ble, true_and, Bool.false_eq_true, if_false, if_true, Nat.reduceAdd, Nat.reduceSub, Nat.reduceLeDiff, false_implies, true_implies, not_false_eq_true, not_true_eq_false, and_true]
  refine ⟨fun _ => mj_blk rfl ?_, fun q => absurd (nI_le (b := 30000) hl (by decide)) q⟩
  simp +decide only [mjs_0, mjs_1, mjs_2, mjs_3, mjs_ble, true_and, Bool.false_eq_true, if_false, if_true, Nat.reduceAdd, Nat.reduceSub, Nat.reduceLeDiff, false_implies, true_implies, not_false_eq_true, not_true_eq_false, and_true]
  refine mj_blk rfl ?_
  simp +decide only [mjs_0, mjs_1, mjs_2, mjs_3, mjs_ble, true_and, Bool.false_eq_true, if_false, if_true, Nat.reduceAdd, Nat.reduceSub, Nat.reduceLeDiff, false_implies, true_implies, not_false_eq_true, not_true_eq_false, and_true, mm_sh, hm, mjs_up_at, mjs_up_c, mjs_up_f]
  refine mj_blk rfl ?_
  simp +decide only [mjs_0, mjs_1, mjs_2, mjs_3, mjs_ble, true_and, Bool.false_eq_true, if_false, if_true, Nat.reduceAdd, Nat.reduceSub, Nat.reduceLeDiff, false_implies, true_implies, not_false_eq_true, not_true_eq_false, and_true, mm_sh, hm, mjs_up_at, mjs_up_c, mjs_up_f]
  refine c_107x hM' (fun J1 a1 a2 a3 a4 a5 a6 a7 a8 => ?_)
  simp +decide only [mjs_0, mjs_1, mjs_2, mjs_3, mjs_ble, true_and, Bool.false_eq_true, if_false, if_true, Nat.reduceAdd, Nat.reduceSub, Nat.reduceLeDiff, false_implies, true_implies, not_false_eq_true, not_true_eq_false, and_true, mm_sh, hm, mjs_up_at, mjs_up_c, mjs_up_f]
  have hRR : RR J (g0 vb lim st mm n tx) (mj_up J1 36 37 (nI lim)) := by
    refine g0_rr hV (fun b q b1 b2 b3 b4 b5 b6 b7 => ?_) (fun q hq => ?_) rfl (a3.2.trans j2) (fun j hj => ?_) a4 a5 a6 a7 a8
    · rw [mjs_up_c b1, a1 b q b1 b2 b3 b4 b5 b6 b7, mjs_up_c b1]
    · rw [mjs_up_ne (Or.inr (by rintro rfl; revert hq; decide))]
      exact a2 q hq
    · show J1 37 j = _
      rw [a1 37 j (by decide) (by decide) (by decide) (by decide) (by decide) (by decide) (by decide), mjs_up_c (by decide)]
      exact j3 j hj
  exact mj_nv (hE J Lg d nc ns _ (nI lim) none Q hRR (fun J' v c1 => hQ J' v (idr_h j6 c1)))
theorem r_178b (hM' : mj_Rt mm_R Rf) (hJ : IDR H tk n tx O cn J) {t : Int32} (ht : t < 0 ∨ ¬ t ≤ 30000) {D : Nat} (hQ : ∀ J' v, IDR H tk n tx O cn J' → Q (.inl (some (.int v))) (sh59, J', Lg, Rf, nc, ns)) :
    mj_call (mj_X0 L xs) mj_P (mj_bi (mj_X0 L xs)) (D + 1) 178 [.ref 36, .int t] (sh59, J, Lg, Rf, nc, ns) Q := by
  have hm := mm_rf hM'
  have hJ' := hJ
  obtain ⟨j1, ⟨j2, j3⟩, j4, j5, j6⟩ := hJ
  have K12 : mj_rn (mj_X0 L xs) (mj_hd []) (mj_call (mj_X0 L xs) mj_P (mj_bi (mj_X0 L xs)) D) mb_178 12 [some (.ref 36), some (.int t), none] [.ref 36] (sh59, J, Lg, Rf, nc, ns) Q := by
    refine mj_blk rfl ?_
    simp +decide only [mjs_0, mjs_1, mjs_2, mjs_3, mjs_ble, true_and, Bool.false_eq_true, if_false, if_true, Nat.reduceAdd, Nat.reduceSub, Nat.reduceLeDiff, false_implies, true_implies, not_false_eq_true, not_true_eq_false, and_true]
    refine mj_blk rfl ?_
    simp +decide only [mjs_0, mjs_1, mjs_2, mjs_3, mjs_ble, true_and, Bool.false_eq_true, if_false, if_true, Nat.reduceAdd, Nat.reduceSub, Nat.reduceLeDiff, false_implies, true_implies, not_false_eq_true, not_true_eq_false, and_true, mm_sh, hm, mjs_up_at, mjs_up_c, mjs_up_f]
    refine mj_blk rfl ?_
    simp +decide only [mjs_0, mjs_1, mjs_2, mjs_3, mjs_ble, true_and, Bool.false_eq_true, if_false, if_true, Nat.reduceAdd, Nat.reduceSub, Nat.reduceLeDiff, false_implies, true_implies, not_false_eq_true, not_true_eq_false, and_true, mm_sh, hm, mjs_up_at, mjs_up_c, mjs_up_f]
    exact hQ _ _ ⟨j1, ⟨j2, j3⟩, j4, j5, fun c hc => by rw [mj_up_off (by omega)]; exact j6 c hc⟩
  refine mj_enter (z := (3, [], mb_178)) (by decide) rfl rfl ?_
  refine mj_blk rfl ?_
  simp +decide only [mjs_0, mjs_1, mjs_2, mjs_3, mjs_ble, true_and, Bool.false_eq_true, if_false, if_true, Nat.reduceAdd, Nat.reduceSub, Nat.reduceLeDiff, false_implies, true_implies, not_false_eq_true, not_true_eq_false, and_true]
  refine ⟨fun q => mj_nv K12, fun q => mj_blk rfl ?_⟩
  simp +decide only [mjs_0, mjs_1, mjs_2, mjs_3, mjs_ble, true_and, Bool.false_eq_true, if_false, if_true, Nat.reduceAdd, Nat.reduceSub, Nat.reduceLeDiff, false_implies, true_implies, not_false_eq_true, not_true_eq_false, and_true]
  exact ⟨fun q' => absurd ht (fun h => h.elim (fun h1 => q h1) (fun h2 => h2 q')), fun _ => mj_nv K12⟩
/-- type -/
def tyc (w : Int64) (j : Nat) : Int32 := (((w.toUInt64 >>> (((8 : Int32) * nI j).toInt64.toUInt64 &&& Int64.toUInt64 63)).toInt64).toInt32) &&& 255
def tyt (tx : Nat → Nat) (n : Nat) (w : Int64) (q : Nat) : Nat := if q < n then tx q else (tyc w (q - n)).toBitVec.toNat
theorem ty_sh (w : Int64) (s : Nat) (hs : s + 8 ≤ 64) (b : UInt64) (hb : (b.toBitVec % 64#64) = BitVec.ofNat 64 s) (c : Int64) (hc : c.toBitVec.smod 64#64 = BitVec.ofNat 64 s) :
    (((w.toUInt64 >>> b).toInt64).toInt32 &&& 255).toInt8 = ((w >>> c).toInt32).toInt8 := by
  apply Int8.toBitVec_inj.mp
  show BitVec.signExtend 8 (BitVec.signExtend 32 (w.toBitVec >>> (b.toBitVec % 64#64)) &&& 255#32) = BitVec.signExtend 8 (BitVec.signExtend 32 (w.toBitVec.sshiftRight' (c.toBitVec.smod 64#64)))
  rw [hb, hc]
  rw [BitVec.signExtend_eq_setWidth_of_le _ (by decide), BitVec.signExtend_eq_setWidth_of_le _ (by decide), BitVec.signExtend_eq_setWidth_of_le _ (by decide), BitVec.signExtend_eq_setWidth_of_le _ (by decide)]
  apply BitVec.eq_of_getLsbD_eq
  intro i hi
  have h255 : (255#32).getLsbD i = true := by
    have : i = 0 ∨ i = 1 ∨ i = 2 ∨ i = 3 ∨ i = 4 ∨ i = 5 ∨ i = 6 ∨ i = 7 := by omega
    rcases this with rfl | rfl | rfl | rfl | rfl | rfl | rfl | rfl <;> rfl
  have hsn : (BitVec.ofNat 64 s).toNat = s := by
    rw [BitVec.toNat_ofNat]
    exact Nat.mod_eq_of_lt (by omega)
  rw [BitVec.getLsbD_setWidth, BitVec.getLsbD_setWidth, BitVec.getLsbD_and, BitVec.getLsbD_setWidth, BitVec.getLsbD_setWidth, h255, BitVec.ushiftRight_eq', BitVec.getLsbD_ushiftRight, BitVec.sshiftRight', BitVec.getLsbD_sshiftRight, hsn]
  have h64 : ¬ 64 ≤ i := by omega
  have h65 : s + i < 64 := by omega
  simp [h64, h65, hi]
theorem ty_b {w : Int64} {j : Nat} (hj : j < 8) : (tyc w j).toInt8 = ((w >>> (((8 : Int32) * nI j).toInt64 &&& 63)).toInt32).toInt8 := by
  refine ty_sh w (8 * j) (by omega) _ ?_ _ ?_
  all_goals
    have : j = 0 ∨ j = 1 ∨ j = 2 ∨ j = 3 ∨ j = 4 ∨ j = 5 ∨ j = 6 ∨ j = 7 := by omega
    rcases this with rfl | rfl | rfl | rfl | rfl | rfl | rfl | rfl <;> decide
theorem ty_n {w : Int64} {j : Nat} : tyc w j = nI ((tyc w j).toBitVec.toNat) ∧ (tyc w j).toBitVec.toNat < 256 := by
  constructor
  · have h : (nI (tyc w j).toBitVec.toNat).toBitVec = (tyc w j).toBitVec := by
      apply BitVec.eq_of_toNat_eq
      rw [pk_tn (tyc w j).toBitVec.isLt]
    exact (Int32.toBitVec.inj h).symm
  · unfold tyc
    show (BitVec.and _ 255#32).toNat < 256
    rw [show ∀ a b : BitVec 32, BitVec.and a b = a &&& b from fun _ _ => rfl, BitVec.toNat_and]
    exact Nat.lt_of_le_of_lt Nat.and_le_right (by decide)
theorem tyt_at {w : Int64} {j : Nat} : tyt tx n w (n + j) = (tyc w j).toBitVec.toNat := by
  unfold tyt
  rw [if_neg (by omega), Nat.add_sub_cancel_left]
theorem tyt_lo {w : Int64} {j : Nat} (h : j < n) : tyt tx n w j = tx j := if_pos h
variable {X : mj_X}
theorem c_82x (hR : mj_Rt mp_R Rf) {d j : Nat} {v : Int32} (hj : j < 4000) (h1 : I 17 1 = nI j) (hQ : Q (.inl none) (sh59, mj_up (mj_up I 18 j v) 17 1 (nI (j + 1)), Lg, Rf, nc, ns)) : mj_call X mj_P (mj_bi X) (d + 1) 82 [.ref 17, .int v] (sh59, I, Lg, Rf, nc, ns) Q := by
  have hr := mc_rf hR
  have e0 : (nI j).toNatClampNeg = j := nI_clamp (by omega)
  refine mj_enter (z := (2, [], mb_82)) (by decide) rfl rfl ?_
  refine mj_blk rfl ?_
  simp +decide only [mjs_0, mjs_1, mjs_2, mjs_3, mjs_ble, true_and, Bool.false_eq_true, if_false, if_true, Nat.reduceAdd, Nat.reduceSub, Nat.reduceLeDiff, false_implies, true_implies, not_false_eq_true, not_true_eq_false, and_true, mc_sh, hr, mjs_up_at, mjs_up_c, mjs_up_f, h1]
  refine ⟨fun q => absurd q (nI_ge (a := j) (b := 4000) hj (by decide)), fun _ => mj_blk rfl ?_⟩
  simp +decide only [mjs_0, mjs_1, mjs_2, mjs_3, mjs_ble, true_and, Bool.false_eq_true, if_false, if_true, Nat.reduceAdd, Nat.reduceSub, Nat.reduceLeDiff, false_implies, true_implies, not_false_eq_true, not_true_eq_false, and_true, mc_sh, hr, mjs_up_at, mjs_up_c, mjs_up_f, h1, e0, nI_1]
  refine ⟨nI_in (by omega) (by decide), mj_blk rfl ?_⟩
  simp +decide only [mjs_0, mjs_1, mjs_2, mjs_3, mjs_ble, true_and, Bool.false_eq_true, if_false, if_true, Nat.reduceAdd, Nat.reduceSub, Nat.reduceLeDiff, false_implies, true_implies, not_false_eq_true, not_true_eq_false, and_true, mc_sh, hr, mjs_up_at, mjs_up_c, mjs_up_f]
  exact hQ
theorem f1x (hR : mj_Rt mp_R Rf) {d : Nat} {w : Int64} {k : Nat} (hk : k ≤ 8) (hn : n + k ≤ 4000) (hQ : ∀ I', IDC vb tk (n + k) (tyt tx n w) O cn I' → Q (.inl (some (.int 1))) (sh59, I', Lg, Rf, nc, ns)) :
    ∀ (m j : Nat) (I' : Nat → Nat → Int32), j + m = k → IDC vb tk (n + j) (tyt tx n w) O cn I' → mj_rn X (mj_hd []) (mj_call X mj_P (mj_bi X) (d + 1)) mb_1 31 [some (.ref 0), some (.long w), none, some (.int (nI k)), some (.int (nI j))] [] (sh59, I', Lg, Rf, nc, ns) Q := by
  have hr := mc_rf hR
  intro m
  induction m with
  | zero =>
    intro j I' hj hI
    obtain rfl : j = k := by omega
    refine mj_blk rfl ?_
    simp +decide only [mjs_0, mjs_1, mjs_2, mjs_3, mjs_ble, true_and, Bool.false_eq_true, if_false, if_true, Nat.reduceAdd, Nat.reduceSub, Nat.reduceLeDiff, false_implies, true_implies, not_false_eq_true, not_true_eq_false, and_true]
    refine ⟨fun _ => mj_blk rfl ?_, fun q => absurd (nI_le (Nat.le_refl j) (by omega)) q⟩
    simp +decide only [mjs_0, mjs_1, mjs_2, mjs_3, mjs_ble, true_and, Bool.false_eq_true, if_false, if_true, Nat.reduceAdd, Nat.reduceSub, Nat.reduceLeDiff, false_implies, true_implies, not_false_eq_true, not_true_eq_false, and_true]
    exact hQ I' hI
  | succ m ih =>
    intro j I' hj hI
    obtain ⟨h1, ⟨t1, t2, t3⟩, hO, hN, hY, hS, s, hs1, hs2⟩ := hI
    have tn := ty_n (w := w) (j := j)
    refine mj_blk rfl ?_
    simp +decide only [mjs_0, mjs_1, mjs_2, mjs_3, mjs_ble, true_and, Bool.false_eq_true, if_false, if_true, Nat.reduceAdd, Nat.reduceSub, Nat.reduceLeDiff, false_implies, true_implies, not_false_eq_true, not_true_eq_false, and_true]
    refine ⟨fun q => absurd q (nI_ge (by omega) (by omega)), fun _ => mj_blk rfl ?_⟩
    simp +decide only [mjs_0, mjs_1, mjs_2, mjs_3, mjs_ble, true_and, Bool.false_eq_true, if_false, if_true, Nat.reduceAdd, Nat.reduceSub, Nat.reduceLeDiff, false_implies, true_implies, not_false_eq_true, not_true_eq_false, and_true, mc_sh, hr, mjs_up_at, mjs_up_c, mjs_up_f]
    refine c_82x hR (j := n + j) (by omega) t1 ?_
    simp +decide only [mjs_0, mjs_1, mjs_2, mjs_3, mjs_ble, true_and, Bool.false_eq_true, if_false, if_true, Nat.reduceAdd, Nat.reduceSub, Nat.reduceLeDiff, false_implies, true_implies, not_false_eq_true, not_true_eq_false, and_true, nI_1]
    refine mj_nv (ih (j + 1) _ (by omega) ⟨h1, ⟨rfl, by omega, fun q hq => ?_⟩, hO, hN, hY, hS, s, hs1, hs2⟩)
    have hq' : q < n + j + 1 := hq
    by_cases e : q = n + j
    · subst e
      rw [tyt_at]
      refine ⟨?_, tn.2⟩
      rw [mjs_up_c (by decide), mjs_up_at]
      exact tn.1
    · rw [mjs_up_c (by decide), mjs_up_ne (Or.inr e)]
      exact t3 q (by omega)
theorem c_1x (hR : mj_Rt mp_R Rf) {d : Nat} {w : Int64} {m : Int32} (hI : IDC vb tk n tx O cn I)
    (hQ0 : (¬ ∃ k, 1 ≤ k ∧ k ≤ 8 ∧ m = nI k ∧ n + k ≤ 4000) → Q (.inl (some (.int 0))) (sh59, I, Lg, Rf, nc, ns))
    (hQ1 : ∀ k I', 1 ≤ k → k ≤ 8 → m = nI k → n + k ≤ 4000 → IDC vb tk (n + k) (tyt tx n w) O cn I' → Q (.inl (some (.int 1))) (sh59, I', Lg, Rf, nc, ns)) :
    mj_call X mj_P (mj_bi X) (d + 2) 1 [.ref 0, .long w, .int m] (sh59, I, Lg, Rf, nc, ns) Q := by
  have hr := mc_rf hR
  have hI' := hI
  obtain ⟨h1, ⟨t1, t2, t3⟩, hO, hN, hY, hS, s, hs1, hs2⟩ := hI
  have K26 : (¬ ∃ k, 1 ≤ k ∧ k ≤ 8 ∧ m = nI k ∧ n + k ≤ 4000) → mj_rn X (mj_hd []) (mj_call X mj_P (mj_bi X) (d + 1)) mb_1 26 [none, none, none, none, none] [] (sh59, I, Lg, Rf, nc, ns) Q := by
    intro hno
    refine mj_blk rfl ?_
    simp +decide only [mjs_0, mjs_1, mjs_2, mjs_3, mjs_ble, true_and, Bool.false_eq_true, if_false, if_true, Nat.reduceAdd, Nat.reduceSub, Nat.reduceLeDiff, false_implies, true_implies, not_false_eq_true, not_true_eq_false, and_true]
    exact hQ0 hno
  refine mj_enter (z := (5, [], mb_1)) (by decide) rfl rfl ?_
  refine mj_blk rfl ?_
  simp +decide only [mjs_0, mjs_1, mjs_2, mjs_3, mjs_ble, true_and, Bool.false_eq_true, if_false, if_true, Nat.reduceAdd, Nat.reduceSub, Nat.reduceLeDiff, false_implies, true_implies, not_false_eq_true, not_true_eq_false, and_true]
  refine ⟨fun q => mj_nv (K26 ?_), fun q => mj_blk rfl ?_⟩
  · rintro ⟨k, k1, k2, rfl, k3⟩
    have := (nI_ltI (b := 1) (by omega) (by decide)).mp q
    omega
  simp +decide only [mjs_0, mjs_1, mjs_2, mjs_3, mjs_ble, true_and, Bool.false_eq_true, if_false, if_true, Nat.reduceAdd, Nat.reduceSub, Nat.reduceLeDiff, false_implies, true_implies, not_false_eq_true, not_true_eq_false, and_true]
  refine ⟨fun q' => mj_nv (K26 ?_), fun q' => mj_blk rfl ?_⟩
  · rintro ⟨k, k1, k2, rfl, k3⟩
    have := (nI_ltI (a := 8) (by decide) (by omega)).mp q'
    omega
  have q0 : ¬ m < 0 := fun h => q (Int32.lt_trans h (by decide))
  obtain ⟨k, hk, rfl⟩ := nI_of2 (n := 8) (M := 8) (by decide) q0 (Int32.not_lt.mp q')
  have k1 : 1 ≤ k := by
    rcases Nat.eq_zero_or_pos k with rfl | h
    · exact absurd (by decide) q
    · exact h
  have es : (4000 : Int32) - nI n = nI (4000 - n) := by
    rw [show (4000 : Int32) = nI 4000 from rfl]
    exact pk_sub t2
  simp +decide only [mjs_0, mjs_1, mjs_2, mjs_3, mjs_ble, true_and, Bool.false_eq_true, if_false, if_true, Nat.reduceAdd, Nat.reduceSub, Nat.reduceLeDiff, false_implies, true_implies, not_false_eq_true, not_true_eq_false, and_true, mc_sh, hr, mjs_up_at, mjs_up_c, mjs_up_f, t1, es]
  refine ⟨fun q2 => mj_blk rfl ?_, fun q2 => mj_nv (K26 ?_)⟩
  · have hle := (nI_leI (by omega) (by omega)).mp q2
    simp +decide only [mjs_0, mjs_1, mjs_2, mjs_3, mjs_ble, true_and, Bool.false_eq_true, if_false, if_true, Nat.reduceAdd, Nat.reduceSub, Nat.reduceLeDiff, false_implies, true_implies, not_false_eq_true, not_true_eq_false, and_true]
    refine mj_nv (f1x hR hk (by omega) (fun I' a => hQ1 k I' k1 hk rfl (by omega) a) k 0 I (Nat.zero_add _) ⟨h1, ⟨t1, t2, fun j hj => ?_⟩, hO, hN, hY, hS, s, hs1, hs2⟩)
    rw [tyt_lo (show j < n from hj)]
    exact t3 j hj
  · rintro ⟨k', k1', k2', e, k3⟩
    have := (nI_eq (by omega) (by omega)).mp e
    exact q2 (nI_le (by omega) (by omega))
theorem f105x (hM' : mj_Rt mm_R Rf) {d : Nat} {w : Int64} {k : Nat} (hk : k ≤ 8) (hn : n + k ≤ 4000) (hQ : ∀ J', IDR H tk (n + k) (tyt tx n w) O cn J' → Q (.inl (some (.int 1))) (sh59, J', Lg, Rf, nc, ns)) :
    ∀ (m j : Nat) (J' : Nat → Nat → Int32), j + m = k → IDR H tk (n + j) (tyt tx n w) O cn J' → mj_rn X (mj_hd []) (mj_call X mj_P (mj_bi X) d) mb_105 33 [some (.ref 36), some (.long w), none, some (.int (nI k)), some (.int (nI j))] [] (sh59, J', Lg, Rf, nc, ns) Q := by
  have hm := mm_rf hM'
  intro m
  induction m with
  | zero =>
    intro j J' hj hI
    obtain rfl : j = k := by omega
    refine mj_blk rfl ?_
    simp +decide only [mjs_0, mjs_1, mjs_2, mjs_3, mjs_ble, true_and, Bool.false_eq_true, if_false, if_true, Nat.reduceAdd, Nat.reduceSub, Nat.reduceLeDiff, false_implies, true_implies, not_false_eq_true, not_true_eq_false, and_true]
    refine ⟨fun _ => mj_blk rfl ?_, fun q => absurd (nI_le (Nat.le_refl j) (by omega)) q⟩
    simp +decide only [mjs_0, mjs_1, mjs_2, mjs_3, mjs_ble, true_and, Bool.false_eq_true, if_false, if_true, Nat.reduceAdd, Nat.reduceSub, Nat.reduceLeDiff, false_implies, true_implies, not_false_eq_true, not_true_eq_false, and_true]
    exact hQ J' hI
  | succ m ih =>
    intro j J' hj hI
    obtain ⟨h1, ⟨t1, t3⟩, hO, hc, hz⟩ := hI
    have tn := ty_n (w := w) (j := j)
    have tb := ty_b (w := w) (j := j) (by omega)
    have e0 : (nI (n + j)).toNatClampNeg = n + j := nI_clamp (by omega)
    refine mj_blk rfl ?_
    simp +decide only [mjs_0, mjs_1, mjs_2, mjs_3, mjs_ble, true_and, Bool.false_eq_true, if_false, if_true, Nat.reduceAdd, Nat.reduceSub, Nat.reduceLeDiff, false_implies, true_implies, not_false_eq_true, not_true_eq_false, and_true]
    refine ⟨fun q => absurd q (nI_ge (by omega) (by omega)), fun _ => mj_blk rfl ?_⟩
    simp +decide only [mjs_0, mjs_1, mjs_2, mjs_3, mjs_ble, true_and, Bool.false_eq_true, if_false, if_true, Nat.reduceAdd, Nat.reduceSub, Nat.reduceLeDiff, false_implies, true_implies, not_false_eq_true, not_true_eq_false, and_true, mm_sh, hm, mjs_up_at, mjs_up_c, mjs_up_f, t1, nI_1, e0]
    refine ⟨nI_in (by omega) (by decide), mj_nv (ih (j + 1) _ (by omega) ⟨h1, ⟨rfl, fun q hq => ?_⟩, hO, hc, fun c hcc => by rw [mj_up_off (by omega), mj_up_off (by omega)]; exact hz c hcc⟩)⟩
    have hq' : q < n + j + 1 := hq
    by_cases e : q = n + j
    · subst e
      rw [tyt_at, mjs_up_c (by decide), mjs_up_at]
      unfold bt
      rw [← tn.1, tb]
    · rw [mjs_up_c (by decide), mjs_up_ne (Or.inr e)]
      exact t3 q (by omega)
theorem r_105x (hM' : mj_Rt mm_R Rf) {d : Nat} {w : Int64} {m : Int32} (hn4 : n ≤ 4000) (hI : IDR H tk n tx O cn J)
    (hQ0 : (¬ ∃ k, 1 ≤ k ∧ k ≤ 8 ∧ m = nI k ∧ n + k ≤ 4000) → ∀ J', IDR H tk n tx O cn J' → Q (.inl (some (.int 0))) (sh59, J', Lg, Rf, nc, ns))
    (hQ1 : ∀ k J', 1 ≤ k → k ≤ 8 → m = nI k → n + k ≤ 4000 → IDR H tk (n + k) (tyt tx n w) O cn J' → Q (.inl (some (.int 1))) (sh59, J', Lg, Rf, nc, ns)) :
    mj_call X mj_P (mj_bi X) (d + 1) 105 [.ref 36, .long w, .int m] (sh59, J, Lg, Rf, nc, ns) Q := by
  have hm := mm_rf hM'
  obtain ⟨h1, ⟨t1, t3⟩, hO, hc, hz⟩ := hI
  have hz0 : ∀ c, c < 36 → mj_up J 36 0 0 c = H c := fun c hcc => by
    rw [mj_up_off (by omega)]
    exact hz c hcc
  have e1 : mj_up J 36 0 0 36 1 = nI n := t1
  have K28 : (¬ ∃ k, 1 ≤ k ∧ k ≤ 8 ∧ m = nI k ∧ n + k ≤ 4000) → mj_rn X (mj_hd []) (mj_call X mj_P (mj_bi X) d) mb_105 28 [none, none, none, none, none] [] (sh59, mj_up J 36 0 0, Lg, Rf, nc, ns) Q := by
    intro hno
    refine mj_blk rfl ?_
    simp +decide only [mjs_0, mjs_1, mjs_2, mjs_3, mjs_ble, true_and, Bool.false_eq_true, if_false, if_true, Nat.reduceAdd, Nat.reduceSub, Nat.reduceLeDiff, false_implies, true_implies, not_false_eq_true, not_true_eq_false, and_true]
    exact hQ0 hno _ ⟨h1, ⟨t1, t3⟩, hO, hc, hz0⟩
  refine mj_enter (z := (5, [], mb_105)) (by decide) rfl rfl ?_
  refine mj_blk rfl ?_
  simp +decide only [mjs_0, mjs_1, mjs_2, mjs_3, mjs_ble, true_and, Bool.false_eq_true, if_false, if_true, Nat.reduceAdd, Nat.reduceSub, Nat.reduceLeDiff, false_implies, true_implies, not_false_eq_true, not_true_eq_false, and_true, mm_sh, hm, mjs_up_at, mjs_up_c, mjs_up_f]
  refine ⟨fun q => mj_nv (K28 ?_), fun q => mj_blk rfl ?_⟩
  · rintro ⟨k, k1, k2, rfl, k3⟩
    have := (nI_ltI (b := 1) (by omega) (by decide)).mp q
    omega
  simp +decide only [mjs_0, mjs_1, mjs_2, mjs_3, mjs_ble, true_and, Bool.false_eq_true, if_false, if_true, Nat.reduceAdd, Nat.reduceSub, Nat.reduceLeDiff, false_implies, true_implies, not_false_eq_true, not_true_eq_false, and_true]
  refine ⟨fun q' => mj_nv (K28 ?_), fun q' => mj_blk rfl ?_⟩
  · rintro ⟨k, k1, k2, rfl, k3⟩
    have := (nI_ltI (a := 8) (by decide) (by omega)).mp q'
    omega
  have q0 : ¬ m < 0 := fun h => q (Int32.lt_trans h (by decide))
  obtain ⟨k, hk, rfl⟩ := nI_of2 (n := 8) (M := 8) (by decide) q0 (Int32.not_lt.mp q')
  have k1 : 1 ≤ k := by
    rcases Nat.eq_zero_or_pos k with rfl | h
    · exact absurd (by decide) q
    · exact h
  have ea : nI n + nI k = nI (n + k) := nI_add n k
  simp +decide only [mjs_0, mjs_1, mjs_2, mjs_3, mjs_ble, true_and, Bool.false_eq_true, if_false, if_true, Nat.reduceAdd, Nat.reduceSub, Nat.reduceLeDiff, false_implies, true_implies, not_false_eq_true, not_true_eq_false, and_true, mm_sh, hm, mjs_up_at, mjs_up_c, mjs_up_f, t1, ea]
  refine ⟨fun q2 => mj_blk rfl ?_, fun q2 => mj_nv (K28 ?_)⟩
  · have hle := (nI_leI (b := 4000) (by omega) (by decide)).mp q2
    simp +decide only [mjs_0, mjs_1, mjs_2, mjs_3, mjs_ble, true_and, Bool.false_eq_true, if_false, if_true, Nat.reduceAdd, Nat.reduceSub, Nat.reduceLeDiff, false_implies, true_implies, not_false_eq_true, not_true_eq_false, and_true]
    refine mj_nv (f105x hM' hk (by omega) (fun I' a => hQ1 k I' k1 hk rfl (by omega) a) k 0 _ (Nat.zero_add _) ⟨h1, ⟨e1, fun j hj => ?_⟩, hO, hc, hz0⟩)
    rw [tyt_lo (show j < n from hj)]
    exact t3 j hj
  · rintro ⟨k', k1', k2', e, k3⟩
    have := (nI_eq (by omega) (by omega)).mp e
    exact q2 (nI_le (b := 4000) (by omega) (by decide))
/-- out, class and reference -/
theorem c_5x (hR : mj_Rt mp_R Rf) {d : Nat} {i : Int32} (hI : IDC vb tk n tx O cn I) (hr' : nc + 1 ≤ X.2.2.1 ∧ ns + 6 ≤ X.2.2.2) (hQ1 : (¬ ∃ k, k < O.1 ∧ i = nI k) → Q (.inr 502) (sh59, I, Lg, Rf, nc + 1, ns + 6)) (hQ2 : ∀ k, k < O.1 → i = nI k → Q (.inl (some (.int (nI (O.2 k))))) (sh59, I, Lg, Rf, nc, ns)) : mj_call X mj_P (mj_bi X) (d + 1) 5 [.ref 0, .int i] (sh59, I, Lg, Rf, nc, ns) Q := by
  have hr := mc_rf hR
  obtain ⟨h1, ht, ⟨⟨o1, o2⟩, g1, g2⟩, hN, hY, hS, s, hs1, hs2⟩ := hI
  have K15 : (¬ ∃ k, k < O.1 ∧ i = nI k) → mj_rn X (mj_hd []) (mj_call X mj_P (mj_bi X) d) mb_5 15 [none, none] [] (sh59, I, Lg, Rf, nc, ns) Q := by
    intro hno
    refine mj_blk rfl ?_
    simp +decide only [mjs_0, mjs_1, mjs_2, mjs_3, mjs_ble, true_and, Bool.false_eq_true, if_false, if_true, Nat.reduceAdd, Nat.reduceSub, Nat.reduceLeDiff]
    exact ⟨hr', hQ1 hno⟩
  refine mj_enter (z := (2, [], mb_5)) (by decide) rfl rfl ?_
  refine mj_blk rfl ?_
  simp +decide only [mjs_0, mjs_1, mjs_2, mjs_3, mjs_ble, true_and, Bool.false_eq_true, if_false, if_true, Nat.reduceAdd, Nat.reduceSub, Nat.reduceLeDiff, false_implies, true_implies, not_false_eq_true, not_true_eq_false, and_true]
  refine ⟨fun q => mj_nv (K15 ?_), fun q => mj_blk rfl ?_⟩
  · rintro ⟨k, k1, rfl⟩
    exact nI_pos (by omega) q
  simp +decide only [mjs_0, mjs_1, mjs_2, mjs_3, mjs_ble, true_and, Bool.false_eq_true, if_false, if_true, Nat.reduceAdd, Nat.reduceSub, Nat.reduceLeDiff, false_implies, true_implies, not_false_eq_true, not_true_eq_false, and_true, mc_sh, hr, mjs_up_at, mjs_up_c, mjs_up_f, o1]
  refine ⟨fun q2 => mj_blk rfl ?_, fun q2 => mj_nv (K15 ?_)⟩
  · obtain ⟨k, hk, rfl⟩ := nI_of2 (n := O.1) (M := nI O.1) (nI_toInt (by omega)) q (Int32.le_of_lt q2)
    have hk2 := (nI_ltI (by omega) (by omega)).mp q2
    have e0 : (nI k).toNatClampNeg = k := nI_clamp (by omega)
    simp +decide only [mjs_0, mjs_1, mjs_2, mjs_3, mjs_ble, true_and, Bool.false_eq_true, if_false, if_true, Nat.reduceAdd, Nat.reduceSub, Nat.reduceLeDiff, false_implies, true_implies, not_false_eq_true, not_true_eq_false, and_true, mc_sh, hr, mjs_up_at, mjs_up_c, mjs_up_f, e0, o2 k hk2]
    exact ⟨nI_in (by omega) (by decide), hQ2 k hk2 rfl⟩
  · rintro ⟨k, k1, rfl⟩
    exact q2 (nI_lt k1 (by omega))
theorem r_181x (hM' : mj_Rt mm_R Rf) {d : Nat} {i : Int32} (hg : gvO O) (hI : IDR H tk n tx O cn J) (hQ1 : (¬ ∃ k, k < O.1 ∧ i = nI k) → ∀ J', IDR H tk n tx O cn J' → J' 36 0 = 1 → Q (.inl (some (.int 0))) (sh59, J', Lg, Rf, nc, ns)) (hQ2 : ∀ k, k < O.1 → i = nI k → ∀ J', IDR H tk n tx O cn J' → J' 36 0 = 0 → Q (.inl (some (.int (nI (O.2 k))))) (sh59, J', Lg, Rf, nc, ns)) : mj_call X mj_P (mj_bi X) (d + 1) 181 [.ref 36, .int i] (sh59, J, Lg, Rf, nc, ns) Q := by
  have hm := mm_rf hM'
  obtain ⟨h1, ⟨t1, t3⟩, ⟨o1, o2⟩, hc, hz⟩ := hI
  have hz0 : ∀ (x : Int32) c, c < 36 → mj_up J 36 0 x c = H c := fun x c hcc => by
    rw [mj_up_off (by omega)]
    exact hz c hcc
  have K13 : (¬ ∃ k, k < O.1 ∧ i = nI k) → mj_rn X (mj_hd []) (mj_call X mj_P (mj_bi X) d) mb_181 13 [some (.ref 36), some (.int i)] [.ref 36] (sh59, J, Lg, Rf, nc, ns) Q := by
    intro hno
    refine mj_blk rfl ?_
    simp +decide only [mjs_0, mjs_1, mjs_2, mjs_3, mjs_ble, true_and, Bool.false_eq_true, if_false, if_true, Nat.reduceAdd, Nat.reduceSub, Nat.reduceLeDiff, false_implies, true_implies, not_false_eq_true, not_true_eq_false, and_true]
    refine mj_blk rfl ?_
    simp +decide only [mjs_0, mjs_1, mjs_2, mjs_3, mjs_ble, true_and, Bool.false_eq_true, if_false, if_true, Nat.reduceAdd, Nat.reduceSub, Nat.reduceLeDiff, false_implies, true_implies, not_false_eq_true, not_true_eq_false, and_true, mm_sh, hm, mjs_up_at, mjs_up_c, mjs_up_f]
    refine mj_blk rfl ?_
    simp +decide only [mjs_0, mjs_1, mjs_2, mjs_3, mjs_ble, true_and, Bool.false_eq_true, if_false, if_true, Nat.reduceAdd, Nat.reduceSub, Nat.reduceLeDiff, false_implies, true_implies, not_false_eq_true, not_true_eq_false, and_true, mm_sh, hm, mjs_up_at, mjs_up_c, mjs_up_f]
    refine mj_blk rfl ?_
    simp +decide only [mjs_0, mjs_1, mjs_2, mjs_3, mjs_ble, true_and, Bool.false_eq_true, if_false, if_true, Nat.reduceAdd, Nat.reduceSub, Nat.reduceLeDiff, false_implies, true_implies, not_false_eq_true, not_true_eq_false, and_true, mm_sh, hm, mjs_up_at, mjs_up_c, mjs_up_f]
    exact hQ1 hno _ ⟨h1, ⟨t1, t3⟩, ⟨o1, o2⟩, hc, hz0 1⟩ rfl
  refine mj_enter (z := (2, [], mb_181)) (by decide) rfl rfl ?_
  refine mj_blk rfl ?_
  simp +decide only [mjs_0, mjs_1, mjs_2, mjs_3, mjs_ble, true_and, Bool.false_eq_true, if_false, if_true, Nat.reduceAdd, Nat.reduceSub, Nat.reduceLeDiff, false_implies, true_implies, not_false_eq_true, not_true_eq_false, and_true]
  refine ⟨fun q => mj_nv (K13 ?_), fun q => mj_blk rfl ?_⟩
  · rintro ⟨k, k1, rfl⟩
    exact nI_pos (by have := hg.1; omega) q
  simp +decide only [mjs_0, mjs_1, mjs_2, mjs_3, mjs_ble, true_and, Bool.false_eq_true, if_false, if_true, Nat.reduceAdd, Nat.reduceSub, Nat.reduceLeDiff, false_implies, true_implies, not_false_eq_true, not_true_eq_false, and_true, mm_sh, hm, mjs_up_at, mjs_up_c, mjs_up_f, o1]
  refine ⟨fun q2 => mj_blk rfl ?_, fun q2 => mj_nv (K13 ?_)⟩
  · obtain ⟨k, hk, rfl⟩ := nI_of2 (n := O.1) (M := nI O.1) (nI_toInt (by have := hg.1; omega)) q (Int32.le_of_lt q2)
    have hk2 := (nI_ltI (by have := hg.1; omega) (by have := hg.1; omega)).mp q2
    have e0 : (nI k).toNatClampNeg = k := nI_clamp (by have := hg.1; omega)
    have eb := (bt_of (hg.2 k hk2)).1
    simp +decide only [mjs_0, mjs_1, mjs_2, mjs_3, mjs_ble, true_and, Bool.false_eq_true, if_false, if_true, Nat.reduceAdd, Nat.reduceSub, Nat.reduceLeDiff, false_implies, true_implies, not_false_eq_true, not_true_eq_false, and_true]
    refine mj_blk rfl ?_
    simp +decide only [mjs_0, mjs_1, mjs_2, mjs_3, mjs_ble, true_and, Bool.false_eq_true, if_false, if_true, Nat.reduceAdd, Nat.reduceSub, Nat.reduceLeDiff, false_implies, true_implies, not_false_eq_true, not_true_eq_false, and_true, mm_sh, hm, mjs_up_at, mjs_up_c, mjs_up_f]
    refine mj_blk rfl ?_
    simp +decide only [mjs_0, mjs_1, mjs_2, mjs_3, mjs_ble, true_and, Bool.false_eq_true, if_false, if_true, Nat.reduceAdd, Nat.reduceSub, Nat.reduceLeDiff, false_implies, true_implies, not_false_eq_true, not_true_eq_false, and_true, mm_sh, hm, mjs_up_at, mjs_up_c, mjs_up_f, e0, o2 k hk2, eb]
    refine ⟨nI_in (by have := hg.1; omega) (by decide), mj_blk rfl ?_⟩
    simp +decide only [mjs_0, mjs_1, mjs_2, mjs_3, mjs_ble, true_and, Bool.false_eq_true, if_false, if_true, Nat.reduceAdd, Nat.reduceSub, Nat.reduceLeDiff, false_implies, true_implies, not_false_eq_true, not_true_eq_false, and_true]
    exact hQ2 k hk2 rfl _ ⟨h1, ⟨t1, t3⟩, ⟨o1, o2⟩, hc, hz0 0⟩ rfl
  · rintro ⟨k, k1, rfl⟩
    exact q2 (nI_lt k1 (by have := hg.1; omega))
/-- count in the reference -/
theorem r_182x (hM' : mj_Rt mm_R Rf) {d : Nat} {i : Int32} (hI : IDR H tk n tx O cn J) (hQ1 : (i < 0 ∨ ¬ i ≤ 255) → ∀ J', IDR H tk n tx O cn J' → J' 36 0 = 1 → Q (.inl (some (.int 0))) (sh59, J', Lg, Rf, nc, ns)) (hQ2 : ∀ k, k ≤ 255 → i = nI k → ∀ J', IDR H tk n tx O cn J' → J' 36 0 = 0 → Q (.inl (some (.int (cn k)))) (sh59, J', Lg, Rf, nc, ns)) : mj_call X mj_P (mj_bi X) (d + 1) 182 [.ref 36, .int i] (sh59, J, Lg, Rf, nc, ns) Q := by
  have hm := mm_rf hM'
  obtain ⟨h1, ⟨t1, t3⟩, ⟨o1, o2⟩, hc, hz⟩ := hI
  have hz0 : ∀ (x : Int32) c, c < 36 → mj_up J 36 0 x c = H c := fun x c hcc => by
    rw [mj_up_off (by omega)]
    exact hz c hcc
  have K12 : (i < 0 ∨ ¬ i ≤ 255) → mj_rn X (mj_hd []) (mj_call X mj_P (mj_bi X) d) mb_182 12 [some (.ref 36), some (.int i)] [.ref 36] (sh59, J, Lg, Rf, nc, ns) Q := by
    intro hno
    refine mj_blk rfl ?_
    simp +decide only [mjs_0, mjs_1, mjs_2, mjs_3, mjs_ble, true_and, Bool.false_eq_true, if_false, if_true, Nat.reduceAdd, Nat.reduceSub, Nat.reduceLeDiff, false_implies, true_implies, not_false_eq_true, not_true_eq_false, and_true]
    refine mj_blk rfl ?_
    simp +decide only [mjs_0, mjs_1, mjs_2, mjs_3, mjs_ble, true_and, Bool.false_eq_true, if_false, if_true, Nat.reduceAdd, Nat.reduceSub, Nat.reduceLeDiff, false_implies, true_implies, not_false_eq_true, not_true_eq_false, and_true, mm_sh, hm, mjs_up_at, mjs_up_c, mjs_up_f]
    refine mj_blk rfl ?_
    simp +decide only [mjs_0, mjs_1, mjs_2, mjs_3, mjs_ble, true_and, Bool.false_eq_true, if_false, if_true, Nat.reduceAdd, Nat.reduceSub, Nat.reduceLeDiff, false_implies, true_implies, not_false_eq_true, not_true_eq_false, and_true, mm_sh, hm, mjs_up_at, mjs_up_c, mjs_up_f]
    refine mj_blk rfl ?_
    simp +decide only [mjs_0, mjs_1, mjs_2, mjs_3, mjs_ble, true_and, Bool.false_eq_true, if_false, if_true, Nat.reduceAdd, Nat.reduceSub, Nat.reduceLeDiff, false_implies, true_implies, not_false_eq_true, not_true_eq_false, and_true, mm_sh, hm, mjs_up_at, mjs_up_c, mjs_up_f]
    exact hQ1 hno _ ⟨h1, ⟨t1, t3⟩, ⟨o1, o2⟩, hc, hz0 1⟩ rfl
  refine mj_enter (z := (2, [], mb_182)) (by decide) rfl rfl ?_
  refine mj_blk rfl ?_
  simp +decide only [mjs_0, mjs_1, mjs_2, mjs_3, mjs_ble, true_and, Bool.false_eq_true, if_false, if_true, Nat.reduceAdd, Nat.reduceSub, Nat.reduceLeDiff, false_implies, true_implies, not_false_eq_true, not_true_eq_false, and_true]
  refine ⟨fun q => mj_nv (K12 (Or.inl q)), fun q => mj_blk rfl ?_⟩
  simp +decide only [mjs_0, mjs_1, mjs_2, mjs_3, mjs_ble, true_and, Bool.false_eq_true, if_false, if_true, Nat.reduceAdd, Nat.reduceSub, Nat.reduceLeDiff, false_implies, true_implies, not_false_eq_true, not_true_eq_false, and_true]
  refine ⟨fun q2 => mj_blk rfl ?_, fun q2 => mj_nv (K12 (Or.inr q2))⟩
  obtain ⟨k, hk, rfl⟩ := nI_of2 (n := 255) (by decide) q q2
  have e0 : (nI k).toNatClampNeg = k := nI_clamp (by omega)
  simp +decide only [mjs_0, mjs_1, mjs_2, mjs_3, mjs_ble, true_and, Bool.false_eq_true, if_false, if_true, Nat.reduceAdd, Nat.reduceSub, Nat.reduceLeDiff, false_implies, true_implies, not_false_eq_true, not_true_eq_false, and_true]
  refine mj_blk rfl ?_
  simp +decide only [mjs_0, mjs_1, mjs_2, mjs_3, mjs_ble, true_and, Bool.false_eq_true, if_false, if_true, Nat.reduceAdd, Nat.reduceSub, Nat.reduceLeDiff, false_implies, true_implies, not_false_eq_true, not_true_eq_false, and_true, mm_sh, hm, mjs_up_at, mjs_up_c, mjs_up_f]
  refine mj_blk rfl ?_
  simp +decide only [mjs_0, mjs_1, mjs_2, mjs_3, mjs_ble, true_and, Bool.false_eq_true, if_false, if_true, Nat.reduceAdd, Nat.reduceSub, Nat.reduceLeDiff, false_implies, true_implies, not_false_eq_true, not_true_eq_false, and_true, mm_sh, hm, mjs_up_at, mjs_up_c, mjs_up_f, e0, hc k (by omega)]
  refine ⟨nI_in (by omega) (by decide), mj_blk rfl ?_⟩
  simp +decide only [mjs_0, mjs_1, mjs_2, mjs_3, mjs_ble, true_and, Bool.false_eq_true, if_false, if_true, Nat.reduceAdd, Nat.reduceSub, Nat.reduceLeDiff, false_implies, true_implies, not_false_eq_true, not_true_eq_false, and_true]
  exact hQ2 k hk rfl _ ⟨h1, ⟨t1, t3⟩, ⟨o1, o2⟩, hc, hz0 0⟩ rfl
/-- ticks and size in the reference -/
theorem r_179x (hM' : mj_Rt mm_R Rf) {d : Nat} (hI : IDR H tk n tx O cn J) (hQ : ∀ J', IDR H tk n tx O cn J' → Q (.inl (some (.int (nI tk)))) (sh59, J', Lg, Rf, nc, ns)) : mj_call X mj_P (mj_bi X) (d + 1) 179 [.ref 36] (sh59, J, Lg, Rf, nc, ns) Q := by
  have hm := mm_rf hM'
  obtain ⟨h1, ⟨t1, t3⟩, ⟨o1, o2⟩, hc, hz⟩ := hI
  refine mj_enter (z := (1, [], mb_179)) (by decide) rfl rfl ?_
  refine mj_blk rfl ?_
  simp +decide only [mjs_0, mjs_1, mjs_2, mjs_3, mjs_ble, true_and, Bool.false_eq_true, if_false, if_true, Nat.reduceAdd, Nat.reduceSub, Nat.reduceLeDiff, false_implies, true_implies, not_false_eq_true, not_true_eq_false, and_true, mm_sh, hm, mjs_up_at, mjs_up_c, mjs_up_f, h1]
  exact hQ _ ⟨h1, ⟨t1, t3⟩, ⟨o1, o2⟩, hc, fun c hcc => by rw [mj_up_off (by omega)]; exact hz c hcc⟩
theorem r_180x (hM' : mj_Rt mm_R Rf) {d : Nat} (hI : IDR H tk n tx O cn J) (hQ : ∀ J', IDR H tk n tx O cn J' → Q (.inl (some (.int (nI O.1)))) (sh59, J', Lg, Rf, nc, ns)) : mj_call X mj_P (mj_bi X) (d + 1) 180 [.ref 36] (sh59, J, Lg, Rf, nc, ns) Q := by
  have hm := mm_rf hM'
  obtain ⟨h1, ⟨t1, t3⟩, ⟨o1, o2⟩, hc, hz⟩ := hI
  refine mj_enter (z := (1, [], mb_180)) (by decide) rfl rfl ?_
  refine mj_blk rfl ?_
  simp +decide only [mjs_0, mjs_1, mjs_2, mjs_3, mjs_ble, true_and, Bool.false_eq_true, if_false, if_true, Nat.reduceAdd, Nat.reduceSub, Nat.reduceLeDiff, false_implies, true_implies, not_false_eq_true, not_true_eq_false, and_true, mm_sh, hm, mjs_up_at, mjs_up_c, mjs_up_f, o1]
  exact hQ _ ⟨h1, ⟨t1, t3⟩, ⟨o1, o2⟩, hc, fun c hcc => by rw [mj_up_off (by omega)]; exact hz c hcc⟩
end MJRC
