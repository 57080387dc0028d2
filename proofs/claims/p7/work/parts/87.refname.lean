/-! THE REFERENCE's names, exact -/
theorem vb_all : ((List.range 256).all fun q => decide (vp_nar .byte (nI q).toInt8.toInt32 &&& 255 = nI q)) = true := by decide +kernel
theorem vb_byte {q : Nat} (h : q < 256) : vp_nar .byte (nI q).toInt8.toInt32 &&& 255 = nI q := of_decide_eq_true (List.all_eq_true.mp vb_all q (List.mem_range.mpr h))
/-- names: rn id j the letters, rl id how many; k names -/
def rd_C (I : Nat → Nat → Int32) (m : Nat) (rn : Nat → Nat → Nat) (rl : Nat → Nat) (k : Nat) : Prop := I m 11 = nI k ∧ k ≤ 1036 ∧ ∀ id, id < k → I (m + 5) id = nI (rl id) ∧ rl id ≤ 40 ∧ ∀ j, j < rl id → I (m + 4) (40 * id + j) &&& 255 = nI (rn id j) ∧ rn id j < 256
/-- what is spelled -/
def rd_S (I : Nat → Nat → Int32) (m : Nat) (w : Nat → Nat) (len : Nat) : Prop := I m 15 = nI len ∧ len ≤ 40 ∧ ∀ j, j < len → I (m + 6) j = nI (w j) ∧ w j < 256
section MJRN
variable {X : mj_X} {d nc ns m k len lv : Nat} {Q : mj_Q} {sh : List (Nat × Nat)} {I : Nat → Nat → Int32} {Lg : Nat → Nat → Int64} {Rf : Nat → Nat → Option Nat} {rn : Nat → Nat → Nat} {rl w : Nat → Nat}
theorem r_109 (hW : mr_W sh Rf m) (hC : rd_C I m rn rl k) (hS : rd_S I m w len) (hk : k < 1036)
    (hQ : ∀ I' : Nat → Nat → Int32, rd_C I' m (ud rn k w) (ud rl k len) (k + 1) → (∀ b q, b ≠ m → b ≠ m + 4 → b ≠ m + 5 → I' b q = I b q) → (∀ q, q ≠ 11 → I' m q = I m q) → Q (.inl (some (.int (nI k)))) (sh, I', Lg, Rf, nc, ns)) :
    mj_call X mj_P (mj_bi X) (d + 1) 109 [.ref m] (sh, I, Lg, Rf, nc, ns) Q := by
  obtain ⟨c1, hA⟩ := hW
  obtain ⟨r12, s12⟩ := hA 12 4 1004 44000 (by decide)
  obtain ⟨r13, s13⟩ := hA 13 5 1000 1100 (by decide)
  obtain ⟨r14, s14⟩ := hA 14 6 1000 41 (by decide)
  obtain ⟨h11, hk1, hN⟩ := hC
  obtain ⟨h15, hlen, hw⟩ := hS
  have L2 : ∀ (n j : Nat) (J : Nat → Nat → Int32), j + n = len → (∀ b q, b ≠ m + 4 → J b q = I b q) → (∀ q, q < 40 * k → J (m + 4) q = I (m + 4) q) → (∀ i, i < j → J (m + 4) (40 * k + i) &&& 255 = nI (w i)) →
      mj_rn X (mj_hd []) (mj_call X mj_P (mj_bi X) d) mb_109 2 [some (.ref m), some (.int (nI j))] [] (sh, J, Lg, Rf, nc, ns) Q := by
    intro n
    induction n with
    | zero =>
      intro j J hj hJ hJ4 hJw
      obtain rfl : j = len := by omega
      have g15 : J m 15 = nI j := (hJ m 15 (by omega)).trans h15
      have g11 : J m 11 = nI k := (hJ m 11 (by omega)).trans h11
      have ek : (nI k).toNatClampNeg = k := nI_clamp (by omega)
      have u1 : ∀ (j : Nat) (v : Int32) (q : Nat), mj_up J (m + 5) j v m q = J m q := fun j v q => mjs_up_c (by omega)
      refine mj_blk rfl ?_
      simp +decide only [mjs_0, mjs_1, mjs_2, mjs_3, mjs_ble, true_and, Bool.false_eq_true, if_false, if_true, Nat.reduceAdd, Nat.reduceSub, Nat.reduceLeDiff, mjs_ob c1, g15]
      refine ⟨fun _ => mj_blk rfl ?_, fun q => absurd (nI_le (Nat.le_refl j) (by omega)) q⟩
      simp +decide only [mjs_0, mjs_1, mjs_2, mjs_3, mjs_ble, true_and, Bool.false_eq_true, if_false, if_true, Nat.reduceAdd, Nat.reduceSub, Nat.reduceLeDiff, mjs_ob c1, g15, g11, r13, mjs_ar (t := 0) s13, ek, u1, nI_1, mjs_up_at, nI_pred]
      refine ⟨nI_in (by omega) (by decide), hQ _ ⟨mjs_up_at, by omega, fun id hid => ?_⟩ (fun b q b1 b2 b3 => ?_) (fun q hq => ?_)⟩
      · rw [mjs_up_c (by omega)]
        by_cases hidk : id = k
        · rw [hidk, mjs_up_at, ud_at, ud_at]
          refine ⟨rfl, hlen, fun i hi => ?_⟩
          rw [mjs_up_c (by omega), mjs_up_c (by omega)]
          exact ⟨hJw i hi, (hw i hi).2⟩
        · rw [mjs_up_ne (Or.inr hidk), ud_ne hidk, ud_ne hidk]
          obtain ⟨p1, p2, p3⟩ := hN id (by omega)
          refine ⟨(hJ (m + 5) id (by omega)).trans p1, p2, fun i hi => ?_⟩
          rw [mjs_up_c (by omega), mjs_up_c (by omega), hJ4 _ (by omega)]
          exact p3 i hi
      · rw [mjs_up_c b1, mjs_up_c b3]
        exact hJ b q b2
      · rw [mjs_up_ne (Or.inr hq), u1]
        exact hJ m q (by omega)
    | succ n ih =>
      intro j J hj hJ hJ4 hJw
      have g15 : J m 15 = nI len := (hJ m 15 (by omega)).trans h15
      have g11 : J m 11 = nI k := (hJ m 11 (by omega)).trans h11
      have ej : (nI j).toNatClampNeg = j := nI_clamp (by omega)
      have e0 : (40 : Int32) * nI k = nI (40 * k) := pk_mul 40 k
      have e1 : (nI (40 * k + j)).toNatClampNeg = 40 * k + j := nI_clamp (by omega)
      have g6 : J (m + 6) j = nI (w j) := (hJ (m + 6) j (by omega)).trans (hw j (by omega)).1
      refine mj_blk rfl ?_
      simp +decide only [mjs_0, mjs_1, mjs_2, mjs_3, mjs_ble, true_and, Bool.false_eq_true, if_false, if_true, Nat.reduceAdd, Nat.reduceSub, Nat.reduceLeDiff, mjs_ob c1, g15]
      refine ⟨fun q => absurd q (nI_ge (by omega) (by omega)), fun _ => mj_blk rfl ?_⟩
      simp +decide only [mjs_0, mjs_1, mjs_2, mjs_3, mjs_ble, true_and, Bool.false_eq_true, if_false, if_true, Nat.reduceAdd, Nat.reduceSub, Nat.reduceLeDiff, mjs_ob c1, g11, r12, r14, e0, mjs_ar (t := 0) s14, mjs_ar (t := 4) s12, nI_add, nI_1, ej, e1, g6]
      refine ⟨nI_in (by omega) (by decide), nI_in (by omega) (by decide), ih (j + 1) _ (by omega) (fun b q hb => ?_) (fun q hq => ?_) (fun i hi => ?_)⟩
      · rw [mjs_up_c hb]
        exact hJ b q hb
      · rw [mjs_up_ne (Or.inr (by omega))]
        exact hJ4 q hq
      · by_cases hij : i = j
        · rw [hij, mjs_up_at]
          exact vb_byte (hw j (by omega)).2
        · rw [mjs_up_ne (Or.inr (by omega))]
          exact hJw i (by omega)
  refine mj_enter (z := (2, [], mb_109)) (by decide) rfl rfl ?_
  refine mj_blk rfl ?_
  simp +decide only [mjs_0, mjs_1, mjs_2, mjs_3, mjs_ble, true_and, Bool.false_eq_true, if_false, if_true, Nat.reduceAdd, Nat.reduceSub, Nat.reduceLeDiff]
  exact L2 len 0 I (Nat.zero_add _) (fun _ _ _ => rfl) (fun _ _ => rfl) (fun i hi => absurd hi (Nat.not_lt_zero i))
/-- one name against what is spelled -/
theorem r_110s (hW : mr_W sh Rf m) (hC : rd_C I m rn rl k) (hS : rd_S I m w len) {x : Nat} (hx : x < k) (hl : rl x = len)
    (h1 : (∀ j, j < len → rn x j = w j) → ∀ v : Int32, mj_rn X (mj_hd []) (mj_call X mj_P (mj_bi X) d) mb_110 79 [some (.ref m), some (.int (nI x)), some (.int 1), some (.int v)] [] (sh, I, Lg, Rf, nc, ns) Q)
    (h2 : (∃ j, j < len ∧ rn x j ≠ w j) → ∀ v : Int32, mj_rn X (mj_hd []) (mj_call X mj_P (mj_bi X) d) mb_110 79 [some (.ref m), some (.int (nI x)), some (.int 0), some (.int v)] [] (sh, I, Lg, Rf, nc, ns) Q) :
    ∀ (n j : Nat) (z : Option Value), j + n = len → (∀ i, i < j → rn x i = w i) → mj_rn X (mj_hd []) (mj_call X mj_P (mj_bi X) d) mb_110 31 [some (.ref m), some (.int (nI x)), some (.int 1), some (.int (nI j))] [] (sh, I, Lg, Rf, nc, ns) Q := by
  obtain ⟨c1, hA⟩ := hW
  obtain ⟨r12, s12⟩ := hA 12 4 1004 44000 (by decide)
  obtain ⟨r14, s14⟩ := hA 14 6 1000 41 (by decide)
  obtain ⟨h11, hk1, hN⟩ := hC
  obtain ⟨h15, hlen, hw⟩ := hS
  obtain ⟨p1, p2, p3⟩ := hN x hx
  intro n
  induction n with
  | zero =>
    intro j z hj hs
    obtain rfl : j = len := by omega
    refine mj_blk rfl ?_
    simp +decide only [mjs_0, mjs_1, mjs_2, mjs_3, mjs_ble, true_and, Bool.false_eq_true, if_false, if_true, Nat.reduceAdd, Nat.reduceSub, Nat.reduceLeDiff, mjs_ob c1, h15]
    exact ⟨fun _ => h1 hs _, fun q => absurd (nI_le (Nat.le_refl j) (by omega)) q⟩
  | succ n ih =>
    intro j z hj hs
    have ej : (nI j).toNatClampNeg = j := nI_clamp (by omega)
    have e0 : (40 : Int32) * nI x = nI (40 * x) := pk_mul 40 x
    have e1 : (nI (40 * x + j)).toNatClampNeg = 40 * x + j := nI_clamp (by omega)
    have w1 := p3 j (by omega)
    have w2 := hw j (by omega)
    refine mj_blk rfl ?_
    simp +decide only [mjs_0, mjs_1, mjs_2, mjs_3, mjs_ble, true_and, Bool.false_eq_true, if_false, if_true, Nat.reduceAdd, Nat.reduceSub, Nat.reduceLeDiff, mjs_ob c1, h15]
    refine ⟨fun q => absurd q (nI_ge (by omega) (by omega)), fun _ => mj_blk rfl ?_⟩
    simp +decide only [mjs_0, mjs_1, mjs_2, mjs_3, mjs_ble, true_and, Bool.false_eq_true, if_false, if_true, Nat.reduceAdd, Nat.reduceSub, Nat.reduceLeDiff]
    refine ⟨fun q => q.elim, fun _ => mj_blk rfl ?_⟩
    simp +decide only [mjs_0, mjs_1, mjs_2, mjs_3, mjs_ble, true_and, Bool.false_eq_true, if_false, if_true, Nat.reduceAdd, Nat.reduceSub, Nat.reduceLeDiff, mjs_ob c1, r12, r14, e0, nI_add, mjs_ar (t := 4) s12, mjs_ar (t := 0) s14, e1, ej, w1.1, w2.1]
    refine ⟨nI_in (by omega) (by decide), nI_in (by omega) (by decide), fun q => mj_blk rfl ?_, fun q => mj_blk rfl ?_⟩
    · simp +decide only [mjs_0, mjs_1, mjs_2, mjs_3, mjs_ble, true_and, Bool.false_eq_true, if_false, if_true, Nat.reduceAdd, Nat.reduceSub, Nat.reduceLeDiff]
      refine mj_blk rfl ?_
      simp +decide only [mjs_0, mjs_1, mjs_2, mjs_3, mjs_ble, true_and, Bool.false_eq_true, if_false, if_true, Nat.reduceAdd, Nat.reduceSub, Nat.reduceLeDiff, nI_1]
      refine mj_blk rfl ?_
      simp +decide only [mjs_0, mjs_1, mjs_2, mjs_3, mjs_ble, true_and, Bool.false_eq_true, if_false, if_true, Nat.reduceAdd, Nat.reduceSub, Nat.reduceLeDiff, mjs_ob c1, h15]
      have hd : ∃ j, j < len ∧ rn x j ≠ w j := ⟨j, by omega, fun e => q (by rw [e])⟩
      refine ⟨fun _ => h2 hd _, fun _ => mj_blk rfl ?_⟩
      simp +decide only [mjs_0, mjs_1, mjs_2, mjs_3, mjs_ble, true_and, Bool.false_eq_true, if_false, if_true, Nat.reduceAdd, Nat.reduceSub, Nat.reduceLeDiff]
      exact ⟨fun _ => h2 hd _, fun q => q.elim⟩
    · simp +decide only [mjs_0, mjs_1, mjs_2, mjs_3, mjs_ble, true_and, Bool.false_eq_true, if_false, if_true, Nat.reduceAdd, Nat.reduceSub, Nat.reduceLeDiff]
      refine mj_blk rfl ?_
      simp +decide only [mjs_0, mjs_1, mjs_2, mjs_3, mjs_ble, true_and, Bool.false_eq_true, if_false, if_true, Nat.reduceAdd, Nat.reduceSub, Nat.reduceLeDiff, nI_1]
      refine ih (j + 1) none (by omega) (fun i hi => ?_)
      by_cases hij : i = j
      · rw [hij]
        exact (nI_eq (by omega) (by omega)).mp (Decidable.not_not.mp q)
      · exact hs i (by omega)
theorem r_110 (hW : mr_W sh Rf m) (hC : rd_C I m rn rl k) (hS : rd_S I m w len) (h36 : 36 ≤ k) (hlv : I m 17 = nI lv) (hl : lv ≤ 100) (h39 : I m 39 = 0)
    (hQ1 : ∀ x, x < k → fd_is rn rl w len x → Q (.inl (some (.int (nI (65536 + x))))) (sh, I, Lg, Rf, nc, ns))
    (hQ2 : k = 1036 → (∀ i, i < k → ¬ fd_is rn rl w len i) → Q (.inl (some (.int (-1)))) (sh, mj_up I m 39 2, Lg, Rf, nc, ns))
    (hQ3 : k < 1036 → (∀ i, i < k → ¬ fd_is rn rl w len i) → ∀ (I1 I' : Nat → Nat → Int32), rd_C I1 m (ud rn k w) (ud rl k len) (k + 1) → (∀ b q, b ≠ m → b ≠ m + 4 → b ≠ m + 5 → I1 b q = I b q) → (∀ q, q ≠ 11 → I1 m q = I m q) → mr_set I1 I' (m + 9) 1400 k 0 (lv + 1) 0 → Q (.inl (some (.int (nI (65536 + k))))) (sh, I', Lg, Rf, nc, ns)) :
    mj_call X mj_P (mj_bi X) (d + 2) 110 [.ref m] (sh, I, Lg, Rf, nc, ns) Q := by
  have hW' := hW
  have hC' := hC
  have hS' := hS
  obtain ⟨c1, hA⟩ := hW
  obtain ⟨r13, s13⟩ := hA 13 5 1000 1100 (by decide)
  obtain ⟨r19, s19⟩ := hA 19 9 1000 141400 (by decide)
  obtain ⟨h11, hk1, hN⟩ := hC
  obtain ⟨h15, hlen, hw⟩ := hS
  have K94 : (∀ i, i < k → ¬ fd_is rn rl w len i) → ∀ z1 z2 z3 : Option Value, mj_rn X (mj_hd []) (mj_call X mj_P (mj_bi X) (d + 1)) mb_110 94 [some (.ref m), z1, z2, z3] [] (sh, I, Lg, Rf, nc, ns) Q := by
    intro hno z1 z2 z3
    have es : nI k - 36 = nI (k - 36) := pk_sub (b := 36) h36
    refine mj_blk rfl ?_
    simp +decide only [mjs_0, mjs_1, mjs_2, mjs_3, mjs_ble, true_and, Bool.false_eq_true, if_false, if_true, Nat.reduceAdd, Nat.reduceSub, Nat.reduceLeDiff, mjs_ob c1, h11, es]
    refine ⟨fun q => mj_blk rfl ?_, fun q => mj_blk rfl ?_⟩
    · have hk : k < 1036 := by
        rcases Nat.lt_or_eq_of_le hk1 with h | h
        · exact h
        · exact absurd (by rw [h]; rfl) q
      simp +decide only [mjs_0, mjs_1, mjs_2, mjs_3, mjs_ble, true_and, Bool.false_eq_true, if_false, if_true, Nat.reduceAdd, Nat.reduceSub, Nat.reduceLeDiff, mjs_rc c1]
      refine r_109 hW' hC' hS' hk (fun I1 a1 a2 a3 => ?_)
      simp +decide only [mjs_0, mjs_1, mjs_2, mjs_3, mjs_ble, true_and, Bool.false_eq_true, if_false, if_true, Nat.reduceAdd, Nat.reduceSub, Nat.reduceLeDiff]
      have g17 : I1 m 17 = nI lv := (a3 17 (by decide)).trans hlv
      have L121 : ∀ (n l : Nat) (J : Nat → Nat → Int32) (z : Option Value), l + n = lv + 1 → mr_set I1 J (m + 9) 1400 k 0 l 0 → mj_rn X (mj_hd []) (mj_call X mj_P (mj_bi X) (d + 1)) mb_110 121 [some (.ref m), some (.int (nI k)), some (.int (nI l)), z] [] (sh, J, Lg, Rf, nc, ns) Q := by
        intro n
        induction n with
        | zero =>
          intro l J z hln hs
          obtain rfl : l = lv + 1 := by omega
          have gJ : J m 17 = nI lv := (hs.1 m 17 (by omega)).trans g17
          have e6 : (65536 : Int32) + nI k = nI (65536 + k) := nI_add 65536 k
          refine mj_blk rfl ?_
          simp +decide only [mjs_0, mjs_1, mjs_2, mjs_3, mjs_ble, true_and, Bool.false_eq_true, if_false, if_true, Nat.reduceAdd, Nat.reduceSub, Nat.reduceLeDiff, mjs_ob c1, gJ]
          refine ⟨fun _ => mj_blk rfl ?_, fun q => absurd (nI_lt (by omega) (by omega)) q⟩
          simp +decide only [mjs_0, mjs_1, mjs_2, mjs_3, mjs_ble, true_and, Bool.false_eq_true, if_false, if_true, Nat.reduceAdd, Nat.reduceSub, Nat.reduceLeDiff, e6]
          exact hQ3 hk hno I1 J a1 a2 a3 hs
        | succ n ih =>
          intro l J z hln hs
          have gJ : J m 17 = nI lv := (hs.1 m 17 (by omega)).trans g17
          have e : (1400 : Int32) * nI l = nI (1400 * l) := pk_mul 1400 l
          have e2 : (nI (1400 * l + k)).toNatClampNeg = 1400 * l + k := nI_clamp (by omega)
          refine mj_blk rfl ?_
          simp +decide only [mjs_0, mjs_1, mjs_2, mjs_3, mjs_ble, true_and, Bool.false_eq_true, if_false, if_true, Nat.reduceAdd, Nat.reduceSub, Nat.reduceLeDiff, mjs_ob c1, gJ]
          refine ⟨fun q => absurd q (nI_nlt (by omega) (by omega)), fun _ => mj_blk rfl ?_⟩
          simp +decide only [mjs_0, mjs_1, mjs_2, mjs_3, mjs_ble, true_and, Bool.false_eq_true, if_false, if_true, Nat.reduceAdd, Nat.reduceSub, Nat.reduceLeDiff, mjs_ob c1, r19, e, nI_add, mjs_ar (t := 0) s19, e2, nI_1]
          exact ⟨nI_in (by omega) (by decide), ih (l + 1) _ _ (by omega) (mr_set_st (by decide) hs (Nat.zero_le _))⟩
      exact L121 (lv + 1) 0 I1 _ (by omega) mr_set_rf
    · have hk : k = 1036 := by
        have := (nI_eq (by omega) (by decide)).mp (show nI (k - 36) = nI 1000 from Decidable.not_not.mp q)
        omega
      simp +decide only [mjs_0, mjs_1, mjs_2, mjs_3, mjs_ble, true_and, Bool.false_eq_true, if_false, if_true, Nat.reduceAdd, Nat.reduceSub, Nat.reduceLeDiff, mjs_rc c1]
      refine c_106 c1 ?_
      rw [if_pos h39]
      simp +decide only [mjs_0, mjs_1, mjs_2, mjs_3, mjs_ble, true_and, Bool.false_eq_true, if_false, if_true, Nat.reduceAdd, Nat.reduceSub, Nat.reduceLeDiff]
      exact hQ2 hk hno
  have L2 : ∀ (n x : Nat) (z2 z3 : Option Value), x + n = k → (∀ i, i < x → ¬ fd_is rn rl w len i) → mj_rn X (mj_hd []) (mj_call X mj_P (mj_bi X) (d + 1)) mb_110 2 [some (.ref m), some (.int (nI x)), z2, z3] [] (sh, I, Lg, Rf, nc, ns) Q := by
    intro n
    induction n with
    | zero =>
      intro x z2 z3 hx hno
      obtain rfl : x = k := by omega
      refine mj_blk rfl ?_
      simp +decide only [mjs_0, mjs_1, mjs_2, mjs_3, mjs_ble, true_and, Bool.false_eq_true, if_false, if_true, Nat.reduceAdd, Nat.reduceSub, Nat.reduceLeDiff, mjs_ob c1, h11]
      exact ⟨fun _ => K94 hno _ _ _, fun q => absurd (nI_le (Nat.le_refl x) (by omega)) q⟩
    | succ n ih =>
      intro x z2 z3 hx hno
      obtain ⟨p1, p2, p3⟩ := hN x (by omega)
      have ex : (nI x).toNatClampNeg = x := nI_clamp (by omega)
      have K88 : ¬ fd_is rn rl w len x → ∀ z2 z3 : Option Value, mj_rn X (mj_hd []) (mj_call X mj_P (mj_bi X) (d + 1)) mb_110 88 [some (.ref m), some (.int (nI x)), z2, z3] [] (sh, I, Lg, Rf, nc, ns) Q := by
        intro hn z2 z3
        refine mj_blk rfl ?_
        simp +decide only [mjs_0, mjs_1, mjs_2, mjs_3, mjs_ble, true_and, Bool.false_eq_true, if_false, if_true, Nat.reduceAdd, Nat.reduceSub, Nat.reduceLeDiff, nI_1]
        refine ih (x + 1) _ _ (by omega) (fun i hi => ?_)
        by_cases hix : i = x
        · rw [hix]
          exact hn
        · exact hno i (by omega)
      have K79 : ¬ fd_is rn rl w len x → ∀ v : Int32, mj_rn X (mj_hd []) (mj_call X mj_P (mj_bi X) (d + 1)) mb_110 79 [some (.ref m), some (.int (nI x)), some (.int 0), some (.int v)] [] (sh, I, Lg, Rf, nc, ns) Q := by
        intro hn v
        refine mj_blk rfl ?_
        simp +decide only [mjs_0, mjs_1, mjs_2, mjs_3, mjs_ble, true_and, Bool.false_eq_true, if_false, if_true, Nat.reduceAdd, Nat.reduceSub, Nat.reduceLeDiff]
        exact ⟨fun _ => K88 hn _ _, fun q => q.elim⟩
      refine mj_blk rfl ?_
      simp +decide only [mjs_0, mjs_1, mjs_2, mjs_3, mjs_ble, true_and, Bool.false_eq_true, if_false, if_true, Nat.reduceAdd, Nat.reduceSub, Nat.reduceLeDiff, mjs_ob c1, h11]
      refine ⟨fun q => absurd q (nI_ge (by omega) (by omega)), fun _ => mj_blk rfl ?_⟩
      simp +decide only [mjs_0, mjs_1, mjs_2, mjs_3, mjs_ble, true_and, Bool.false_eq_true, if_false, if_true, Nat.reduceAdd, Nat.reduceSub, Nat.reduceLeDiff, mjs_ob c1, r13, mjs_ar (t := 0) s13, ex, p1, h15]
      refine ⟨nI_in (by omega) (by decide), fun q => mj_blk rfl ?_, fun q => mj_blk rfl ?_⟩
      · have hn : ¬ fd_is rn rl w len x := fun hf => q (by rw [hf.1])
        simp +decide only [mjs_0, mjs_1, mjs_2, mjs_3, mjs_ble, true_and, Bool.false_eq_true, if_false, if_true, Nat.reduceAdd, Nat.reduceSub, Nat.reduceLeDiff]
        refine mj_blk rfl ?_
        simp +decide only [mjs_0, mjs_1, mjs_2, mjs_3, mjs_ble, true_and, Bool.false_eq_true, if_false, if_true, Nat.reduceAdd, Nat.reduceSub, Nat.reduceLeDiff]
        refine mj_blk rfl ?_
        simp +decide only [mjs_0, mjs_1, mjs_2, mjs_3, mjs_ble, true_and, Bool.false_eq_true, if_false, if_true, Nat.reduceAdd, Nat.reduceSub, Nat.reduceLeDiff, mjs_ob c1, h15]
        refine ⟨fun _ => K79 hn _, fun _ => mj_blk rfl ?_⟩
        simp +decide only [mjs_0, mjs_1, mjs_2, mjs_3, mjs_ble, true_and, Bool.false_eq_true, if_false, if_true, Nat.reduceAdd, Nat.reduceSub, Nat.reduceLeDiff]
        exact ⟨fun _ => K79 hn _, fun q => q.elim⟩
      · have hln : rl x = len := (nI_eq (by omega) (by omega)).mp (Decidable.not_not.mp q)
        have e6 : (65536 : Int32) + nI x = nI (65536 + x) := nI_add 65536 x
        simp +decide only [mjs_0, mjs_1, mjs_2, mjs_3, mjs_ble, true_and, Bool.false_eq_true, if_false, if_true, Nat.reduceAdd, Nat.reduceSub, Nat.reduceLeDiff]
        refine mj_blk rfl ?_
        simp +decide only [mjs_0, mjs_1, mjs_2, mjs_3, mjs_ble, true_and, Bool.false_eq_true, if_false, if_true, Nat.reduceAdd, Nat.reduceSub, Nat.reduceLeDiff]
        refine r_110s hW' hC' hS' (by omega) hln (fun hs v => ?_) (fun hd v => K79 (fun hf => ?_) v) len 0 none (Nat.zero_add _) (fun i hi => absurd hi (Nat.not_lt_zero i))
        · refine mj_blk rfl ?_
          simp +decide only [mjs_0, mjs_1, mjs_2, mjs_3, mjs_ble, true_and, Bool.false_eq_true, if_false, if_true, Nat.reduceAdd, Nat.reduceSub, Nat.reduceLeDiff]
          refine ⟨fun q => q.elim, fun _ => mj_blk rfl ?_⟩
          simp +decide only [mjs_0, mjs_1, mjs_2, mjs_3, mjs_ble, true_and, Bool.false_eq_true, if_false, if_true, Nat.reduceAdd, Nat.reduceSub, Nat.reduceLeDiff, e6]
          exact hQ1 x (by omega) ⟨hln, hs⟩
        · obtain ⟨j, hj, hne⟩ := hd
          exact hne (hf.2 j hj)
  refine mj_enter (z := (4, [], mb_110)) (by decide) rfl rfl ?_
  refine mj_blk rfl ?_
  simp +decide only [mjs_0, mjs_1, mjs_2, mjs_3, mjs_ble, true_and, Bool.false_eq_true, if_false, if_true, Nat.reduceAdd, Nat.reduceSub, Nat.reduceLeDiff]
  exact L2 k 0 _ _ (Nat.zero_add _) (fun i hi => absurd hi (Nat.not_lt_zero i))
end MJRN
