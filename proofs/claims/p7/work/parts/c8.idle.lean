/-! BETWEEN CALLS: class and reference side by side -/
def vbx (vb : Nat → Int32) (J : Nat → Nat → Int32) (k : Nat) : Int32 := if k < 3000 then vb k else if (k - 3000) % 4 = 0 then J 36 ((k - 3000) / 4) else if (k - 3000) % 4 = 1 then J 37 ((k - 3000) / 4) else if (k - 3000) % 4 = 2 then J 38 ((k - 3000) / 4) else J 46 ((k - 3000) / 4)
def LI (I : Nat → Nat → Int32) : Prop := ∃ vb tk n tx O cn, VB vb ∧ IDC vb tk n tx O cn I ∧ IDR I tk n tx O cn I
section MJID
variable {L nc ns tk n tk' n' : Nat} {xs : Nat → Int32} {Q : mj_Q} {I I' J J' H : Nat → Nat → Int32} {Lg : Nat → Nat → Int64} {Rf : Nat → Nat → Option Nat} {vb : Nat → Int32} {tx tx' : Nat → Nat} {O O' : sgO} {cn cn' : Nat → Int32}
theorem vbx_lo {k : Nat} (h : k < 3000) : vbx vb J k = vb k := if_pos h
theorem vbx_V (hV : VB vb) : VB (vbx vb J) := by
  refine ⟨fun b hb => ?_, fun c hc => ⟨?_, ?_, ?_⟩, fun i hi => ?_, fun i h1 h2 => ?_⟩
  · rw [vbx_lo (by omega)]
    exact hV.1 b hb
  · rw [vbx_lo (by omega)]
    exact (hV.2.1 c hc).1
  · rw [vbx_lo (by omega)]
    exact (hV.2.1 c hc).2.1
  · rw [vbx_lo (by omega)]
    exact (hV.2.1 c hc).2.2
  · rw [vbx_lo (by omega)]
    exact hV.2.2.1 i hi
  · rw [vbx_lo (by omega)]
    exact hV.2.2.2 i h1 h2
/-- a call of the reference leaves the class as it was -/
theorem idc_j (h : IDC vb tk n tx O cn I) (e : ∀ c, c < 36 → J c = I c) : IDC (vbx vb J) tk n tx O cn J := by
  obtain ⟨h1, ht, hO, hN, hY, hS, hs⟩ := h
  have key : IDC (vbx vb J) tk n tx O cn (fun c => if c < 36 then I c else J c) := by
    refine ⟨h1, ht, hO, hN, ⟨fun b hb => ?_, ⟨fun x hx => ?_, fun q => ?_, fun q => ?_, fun q => ?_, fun q => ?_⟩, hY.2.2.1, hY.2.2.2.1, hY.2.2.2.2⟩, hS, hs⟩
    · rw [vbx_lo (by omega)]
      exact hY.1 b hb
    · rw [vbx_lo (by omega)]
      exact hY.2.1.1 x hx
    · show J 36 q = _
      unfold vbx
      rw [if_neg (by omega), if_pos (by omega), show (3000 + 4 * q - 3000) / 4 = q by omega]
    · show J 37 q = _
      unfold vbx
      rw [if_neg (by omega), if_neg (by omega), if_pos (by omega), show (3001 + 4 * q - 3000) / 4 = q by omega]
    · show J 38 q = _
      unfold vbx
      rw [if_neg (by omega), if_neg (by omega), if_neg (by omega), if_pos (by omega), show (3002 + 4 * q - 3000) / 4 = q by omega]
    · show J 46 q = _
      unfold vbx
      rw [if_neg (by omega), if_neg (by omega), if_neg (by omega), if_neg (by omega), show (3003 + 4 * q - 3000) / 4 = q by omega]
  have e2 : (fun c => if c < 36 then I c else J c) = J := by
    funext c
    by_cases hc : c < 36
    · rw [if_pos hc, e c hc]
    · rw [if_neg hc]
  rw [e2] at key
  exact key
theorem li_mk (hV : VB vb) (a : IDC vb tk n tx O cn I) (b : IDR I tk n tx O cn J) : LI J := ⟨vbx vb J, tk, n, tx, O, cn, vbx_V hV, idc_j a b.2.2.2.2, b.1, b.2.1, b.2.2.1, b.2.2.2.1, fun _ _ => rfl⟩
/-- a call of the class leaves the reference as it was -/
theorem idr_c (a : IDC vb tk n tx O cn I) (b : IDR I tk n tx O cn I) (c : IDC vb tk' n' tx' O' cn' I') : IDR I' tk n tx O cn I' := by
  have y := a.2.2.2.2.1.2.1
  have y' := c.2.2.2.2.1.2.1
  have e36 : ∀ q, I' 36 q = I 36 q := fun q => (y'.2.1 q).trans (y.2.1 q).symm
  have e37 : ∀ q, I' 37 q = I 37 q := fun q => (y'.2.2.1 q).trans (y.2.2.1 q).symm
  have e38 : ∀ q, I' 38 q = I 38 q := fun q => (y'.2.2.2.1 q).trans (y.2.2.2.1 q).symm
  have e46 : ∀ q, I' 46 q = I 46 q := fun q => (y'.2.2.2.2 q).trans (y.2.2.2.2 q).symm
  obtain ⟨b1, ⟨b2, b3⟩, ⟨b4, b5⟩, b6, b7⟩ := b
  exact ⟨(e36 _).trans b1, ⟨(e36 _).trans b2, fun j hj => (e37 j).trans (b3 j hj)⟩, ⟨(e36 _).trans b4, fun j hj => (e38 j).trans (b5 j hj)⟩, fun c hc => (e46 c).trans (b6 c hc), fun _ _ => rfl⟩
theorem idc_cn (h : IDC vb tk n tx O cn I) {k : Nat} (hk : k < 256) : I 10 k = cn k := by
  obtain ⟨h1, ht, hO, hN, hY, ⟨⟨T, kd, G, s⟩, ⟨Lv, sl, le, gs, ⟨hS, hS0⟩, hT⟩, eG, es, hcn⟩, hs⟩ := h
  have eG' : G = 0 := eG
  have es' : s = 0 := es
  subst eG'
  subst es'
  exact (hT 0 k (Nat.le_refl _) (by omega)).trans (hcn k hk)
/-- the law's run, out, count -/
theorem c_193x (hR : mj_Rt mp_R Rf) (hM' : mj_Rt mm_R Rf) (hV : VB vb) (hI : IDC vb tk n tx O cn I) (hr' : nc + 1 ≤ 601024 ∧ ns + 6 ≤ 7293034) {t : Int32} {D : Nat} (hD : 520 ≤ D)
    (hQ1 : t < 0 ∨ ¬ t ≤ 30000 → Q (.inl (some (.int 1))) (sh59, I, Lg, Rf, nc + 1, ns + 6))
    (hQ2 : ∀ I' v lim st mm tk' O' cn' nc' ns', lim ≤ 30000 → t = nI lim → nc' ≤ nc + 1 → ns' ≤ ns + 6 → IDC vb tk' 0 (fun _ => 0) O' cn' I' → RE (mj_X0 L xs) Rf 751 (g0 vb lim st mm n tx) tk' O' cn' → Q (.inl (some (.int 0))) (sh59, I', mj_up Lg 58 0 (Int32.toInt64 v), Rf, nc', ns')) :
    mj_call (mj_X0 L xs) mj_P (mj_bi (mj_X0 L xs)) (D + 1) 193 [.ref 0, .int t, .ref 58] (sh59, I, Lg, Rf, nc, ns) Q := by
  refine mj_enter (z := (4, [(0, 9, 12, 501, 3, 13)], mb_193)) (by decide) rfl rfl ?_
  refine mj_blk rfl ?_
  simp +decide only [mjs_0, mjs_1, mjs_2, mjs_3, mjs_ble, true_and, Bool.false_eq_true, if_false, if_true, Nat.reduceAdd, Nat.reduceSub, Nat.reduceLeDiff, mjs_rc s59_0]
  refine c_2x hR hM' hV hI hr' hD (fun q => mj_ret_in (by decide) ?_) (fun I' v lim st mm tk' O' cn' nc' ns' a1 a2 a3 a4 a5 a6 => ?_)
  · refine mj_blk rfl ?_
    simp +decide only [mjs_0, mjs_1, mjs_2, mjs_3, mjs_ble, true_and, Bool.false_eq_true, if_false, if_true, Nat.reduceAdd, Nat.reduceSub, Nat.reduceLeDiff, mj_er_eq]
    exact hQ1 q
  · simp +decide only [mjs_0, mjs_1, mjs_2, mjs_3, mjs_ble, true_and, Bool.false_eq_true, if_false, if_true, Nat.reduceAdd, Nat.reduceSub, Nat.reduceLeDiff, mjs_ar (t := 1) s59_58]
    refine ⟨by unfold vp_in; decide, mj_blk rfl ?_⟩
    simp +decide only [mjs_0, mjs_1, mjs_2, mjs_3, mjs_ble, true_and, Bool.false_eq_true, if_false, if_true, Nat.reduceAdd, Nat.reduceSub, Nat.reduceLeDiff]
    exact hQ2 I' v lim st mm tk' O' cn' nc' ns' a1 a2 a3 a4 a5 a6
variable {X : mj_X}
theorem c_194x (hR : mj_Rt mp_R Rf) (hI : IDC vb tk n tx O cn I) (hr' : nc + 1 ≤ X.2.2.1 ∧ ns + 6 ≤ X.2.2.2) {t : Int32} {d : Nat}
    (hQ1 : (¬ ∃ k, k < O.1 ∧ t = nI k) → Q (.inl (some (.int 1))) (sh59, I, Lg, Rf, nc + 1, ns + 6))
    (hQ2 : ∀ k, k < O.1 → t = nI k → Q (.inl (some (.int 0))) (sh59, I, mj_up Lg 58 0 (Int32.toInt64 (nI (O.2 k))), Rf, nc, ns)) :
    mj_call X mj_P (mj_bi X) (d + 2) 194 [.ref 0, .int t, .ref 58] (sh59, I, Lg, Rf, nc, ns) Q := by
  refine mj_enter (z := (4, [(0, 9, 12, 502, 3, 13)], mb_194)) (by decide) rfl rfl ?_
  refine mj_blk rfl ?_
  simp +decide only [mjs_0, mjs_1, mjs_2, mjs_3, mjs_ble, true_and, Bool.false_eq_true, if_false, if_true, Nat.reduceAdd, Nat.reduceSub, Nat.reduceLeDiff, mjs_rc s59_0]
  refine c_5x hR hI hr' (fun q => mj_ret_in (by decide) ?_) (fun k hk e => ?_)
  · refine mj_blk rfl ?_
    simp +decide only [mjs_0, mjs_1, mjs_2, mjs_3, mjs_ble, true_and, Bool.false_eq_true, if_false, if_true, Nat.reduceAdd, Nat.reduceSub, Nat.reduceLeDiff, mj_er_eq]
    exact hQ1 q
  · simp +decide only [mjs_0, mjs_1, mjs_2, mjs_3, mjs_ble, true_and, Bool.false_eq_true, if_false, if_true, Nat.reduceAdd, Nat.reduceSub, Nat.reduceLeDiff, mjs_ar (t := 1) s59_58]
    refine ⟨by unfold vp_in; decide, mj_blk rfl ?_⟩
    simp +decide only [mjs_0, mjs_1, mjs_2, mjs_3, mjs_ble, true_and, Bool.false_eq_true, if_false, if_true, Nat.reduceAdd, Nat.reduceSub, Nat.reduceLeDiff]
    exact hQ2 k hk e
/-- the tables of the beginning out of the class's cells -/
def vbi (I : Nat → Nat → Int32) (k : Nat) : Int32 := if k < 2000 then I 11 k else I 8 (k - 2000)
theorem li_0 (z : ∀ b q, b < 36 → mz b → I b q = 0) (f1 : fd_C I 2 3 4 5 6 pmc pml stp 36) (f2 : fd_H I 5 6 pmc pml 36) (f3 : ∀ q, I 8 q = I 5 q) (f4 : ∀ x, x < 1804 → I 11 x = vbS x) (g2 : ∀ q, q ∈ mm_cf → I 36 q = 0) (g3 : I 36 1 = 0) (g4 : ∀ q, q < 256 → I 46 q = 0) : LI I := by
  have v8 : ∀ b, b < 256 → vbi I (2000 + b) = I 8 b := fun b hb => by
    unfold vbi
    rw [if_neg (by omega), Nat.add_sub_cancel_left]
  have v11 : ∀ x, x < 1804 → vbi I x = vbS x := fun x hx => by
    unfold vbi
    rw [if_pos (by omega)]
    exact f4 x hx
  have hV : VB (vbi I) := by
    refine ⟨fun b hb => ?_, fun c hc => ⟨?_, ?_, ?_⟩, fun i hi => ?_, fun i h1 h2 => ?_⟩
    · rw [v8 b hb, f3]
      exact f2.1 b hb
    · rw [v11 c (by omega)]
      exact if_pos hc
    · rw [v11 (256 + c) (by omega)]
      unfold vbS
      rw [if_neg (by omega), if_pos (by omega), Nat.add_sub_cancel_left]
    · rw [v11 (512 + c) (by omega)]
      unfold vbS
      rw [if_neg (by omega), if_neg (by omega), if_pos (by omega)]
    · rw [v11 (768 + i) (by omega)]
      unfold vbS
      rw [if_neg (by omega), if_neg (by omega), if_neg (by omega), if_pos (by omega), Nat.add_sub_cancel_left]
    · rw [v11 (768 + i) (by omega)]
      unfold vbS
      rw [if_neg (by omega), if_neg (by omega), if_neg (by omega), if_neg (by omega)]
  have mzb : ∀ {b : Nat}, (b < 2 ∨ 12 ≤ b ∨ b = 9 ∨ b = 10) → mz b := fun {b} hb => by
    unfold mz
    omega
  refine ⟨vbx (vbi I) I, 0, 0, fun _ => 0, (0, fun _ => 0), fun _ => 0, vbx_V hV, ⟨z 1 1 (by decide) (mzb (by decide)), ⟨z 17 1 (by decide) (mzb (by decide)), by decide, fun j hj => absurd hj (Nat.not_lt_zero _)⟩, ⟨⟨z 34 1 (by decide) (mzb (by decide)), fun j hj => absurd hj (Nat.not_lt_zero _)⟩, by decide, fun j hj => absurd hj (Nat.not_lt_zero _)⟩, ⟨(pmc, pml, 36), ⟨stp, f1, f2⟩, pm_gv⟩, ⟨fun b hb => ?_, ⟨fun x hx => ?_, fun q => ?_, fun q => ?_, fun q => ?_, fun q => ?_⟩, z 23 0 (by decide) (mzb (by decide)), z 23 1 (by decide) (mzb (by decide)), z 24 0 (by decide) (mzb (by decide))⟩, ⟨(fun _ _ => 0, fun _ => 0, 0, 0), ⟨fun _ => 0, fun _ => 0, fun _ => 0, fun _ => 0, ⟨⟨fun x _ => z 12 x (by decide) (mzb (by decide)), fun i hi => absurd hi (Nat.not_lt_zero _), fun g hg => absurd hg (Nat.not_lt_zero _), z 9 5 (by decide) (mzb (by decide)), z 9 8 (by decide) (mzb (by decide)), ⟨by decide, by decide⟩, ⟨fun g hg => absurd hg (Nat.not_lt_zero _), fun x => Nat.le_refl _, fun x h e => absurd (show 0 = h + 1 from e) (by omega), fun i g hg => absurd hg (Nat.not_lt_zero _)⟩, fun x _ => rfl⟩, rfl⟩, fun l x hl hx => ?_⟩, rfl, rfl, fun _ _ => rfl⟩, 0, by decide, z 17 5 (by decide) (mzb (by decide))⟩, ⟨g2 36 (by decide), ⟨g3, fun j hj => absurd hj (Nat.not_lt_zero _)⟩, ⟨g2 3 (by decide), fun j hj => absurd hj (Nat.not_lt_zero _)⟩, g4, fun _ _ => rfl⟩⟩
  · rw [vbx_lo (by omega), v8 b hb]
  · rw [vbx_lo (by omega)]
    unfold vbi
    rw [if_pos (by omega)]
  · unfold vbx
    rw [if_neg (by omega), if_pos (by omega), show (3000 + 4 * q - 3000) / 4 = q by omega]
  · unfold vbx
    rw [if_neg (by omega), if_neg (by omega), if_pos (by omega), show (3001 + 4 * q - 3000) / 4 = q by omega]
  · unfold vbx
    rw [if_neg (by omega), if_neg (by omega), if_neg (by omega), if_pos (by omega), show (3002 + 4 * q - 3000) / 4 = q by omega]
  · unfold vbx
    rw [if_neg (by omega), if_neg (by omega), if_neg (by omega), if_neg (by omega), show (3003 + 4 * q - 3000) / 4 = q by omega]
  · obtain rfl : l = 0 := Nat.le_zero.mp hl
    exact z 10 x (by decide) (mzb (by decide))
set_option maxRecDepth 400000 in
/-- the law's beginning: the class and the reference made -/
theorem l_made {d : Nat} (hk : ∀ (I : Nat → Nat → Int32) (Lg : Nat → Nat → Int64) (Rf : Nat → Nat → Option Nat), mj_Rt mp_R Rf → mj_Rt mm_R Rf → LI I → mj_rn (mj_X0 L xs) (mj_hd []) (mj_call (mj_X0 L xs) mj_P (mj_bi (mj_X0 L xs)) (d + 4)) mb_196 23 [some (.ref 900000), some (.ref 0), some (.ref 36), some (.ref 58), some (.int (nI 0)), none, none] [] (sh59, I, Lg, Rf, 59, 672571) Q) :
    mj_rn (mj_X0 L xs) (mj_hd []) (mj_call (mj_X0 L xs) mj_P (mj_bi (mj_X0 L xs)) (d + 4)) mb_196 0 [some (.ref 900000), none, none, none, none, none, none] [] mj_S0 Q := by
  have n1 : (1 : Int32).toNatClampNeg = 1 := by decide
  refine mj_blk rfl ?_
  simp +decide only [mjs_0, mjs_1, mjs_2, mjs_3, mjs_ble, true_and, Bool.false_eq_true, if_false, if_true, Nat.reduceAdd, Nat.reduceSub, Nat.reduceLeDiff, mjs_lit, mjs_ttb, Nat.reduceEqDiff, mj_S0]
  refine c_0x (fun q => by simp +decide only [mjs_0, mjs_1, mjs_2, mjs_3, mjs_ble, true_and, Bool.false_eq_true, if_false, if_true, Nat.reduceAdd, Nat.reduceSub, Nat.reduceLeDiff, mjs_lit, mjs_ttb, Nat.reduceEqDiff]) (fun I1 Lg1 Rf1 h1 f1 f2 f3 f4 h3 => ?_)
  simp +decide only [mjs_0, mjs_1, mjs_2, mjs_3, mjs_ble, true_and, Bool.false_eq_true, if_false, if_true, Nat.reduceAdd, Nat.reduceSub, Nat.reduceLeDiff, mjs_lit, mjs_ttb, Nat.reduceEqDiff, sh36]
  refine c_103 (fun q => by simp +decide only [mjs_0, mjs_1, mjs_2, mjs_3, mjs_ble, true_and, Bool.false_eq_true, if_false, if_true, Nat.reduceAdd, Nat.reduceSub, Nat.reduceLeDiff, mjs_lit, mjs_ttb, Nat.reduceEqDiff]) (fun I2 Lg2 Rf2 g1 g2 g3 g4 g5 g6 => ?_)
  simp +decide only [mjs_0, mjs_1, mjs_2, mjs_3, mjs_ble, true_and, Bool.false_eq_true, if_false, if_true, Nat.reduceAdd, Nat.reduceSub, Nat.reduceLeDiff, mjs_lit, mjs_ttb, Nat.reduceEqDiff, sh58, n1]
  have hR : mj_Rt mp_R (mj_row Rf2 58 fun _ => none) := by
    have key : ∀ T : List (Nat × Nat × Nat), (∀ t ∈ T, t.1 < 36) → mj_Rt T Rf1 → mj_Rt T (mj_row Rf2 58 fun _ => none) := by
      intro T
      induction T with
      | nil => intro _ _; trivial
      | cons t r ih =>
        intro ht h
        have h36 : t.1 < 36 := ht t List.mem_cons_self
        refine ⟨?_, ih (fun u hu => ht u (List.mem_cons_of_mem _ hu)) h.2⟩
        rw [mjs_row_c (by omega), g5 _ _ h36, mjs_row_c (by omega)]
        exact h.1
    exact key mp_R (by decide) h3
  have hM : mj_Rt mm_R (mj_row Rf2 58 fun _ => none) := by
    have key : ∀ T : List (Nat × Nat × Nat), (∀ t ∈ T, t.1 < 58) → mj_Rt T Rf2 → mj_Rt T (mj_row Rf2 58 fun _ => none) := by
      intro T
      induction T with
      | nil => intro _ _; trivial
      | cons t r ih =>
        intro ht h
        have h36 : t.1 < 58 := ht t List.mem_cons_self
        refine ⟨?_, ih (fun u hu => ht u (List.mem_cons_of_mem _ hu)) h.2⟩
        rw [mjs_row_c (by omega)]
        exact h.1
    exact key mm_R (by decide) g6
  have eI : ∀ b q, b < 36 → mj_row I2 58 (fun _ => 0) b q = I1 b q := fun b q hb => by
    rw [mjs_row_c (by omega), g1 b q hb, mjs_row_c (by omega)]
  have e36 : ∀ b q, b < 58 → mj_row I2 58 (fun _ => 0) b q = I2 b q := fun b q hb => mjs_row_c (by omega)
  have zz : ∀ b q, b < 36 → mz b → mj_row I2 58 (fun _ => 0) b q = 0 := fun b q hb hm => (eI b q hb).trans (h1 b q hb hm)
  exact hk _ _ _ hR hM (li_0 zz ⟨(eI 2 5 (by decide)).trans f1.1, f1.2.1, fun j hj => (eI 4 j (by decide)).trans (f1.2.2.1 j hj), f1.2.2.2.1, f1.2.2.2.2.1, fun id j hid hj => by rw [eI 3 _ (by decide)]; exact f1.2.2.2.2.2 id j hid hj⟩ ⟨fun b hb => by rw [eI 5 b (by decide)]; exact f2.1 b hb, fun j hj => by rw [eI 6 j (by decide)]; exact f2.2 j hj⟩ (fun q => by rw [eI 8 q (by decide), eI 5 q (by decide)]; exact f3 q) (fun x hx => (eI 11 x (by decide)).trans (f4 x hx)) (fun q hq => (e36 36 q (by decide)).trans (g2 q hq)) ((e36 36 1 (by decide)).trans g3.2) (fun q hq => (e36 46 q (by decide)).trans (g4 q hq)))
end MJID
