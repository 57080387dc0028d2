/-! THE CLASS's GROUPS against the levels' tables -/
def vk (k : Nat) : Int32 := match k with
  | 0 => -1
  | k + 1 => nI k
theorem vk_sub (k : Nat) : nI k - 1 = vk k := by
  cases k with
  | zero => decide
  | succ k => exact nI_pred k
theorem vk_dec (k : Nat) : nI k + (-1) = vk k := by
  cases k with
  | zero => decide
  | succ k => exact pk_m1 k
theorem vk_lt {k b : Nat} (hk : k < 2 ^ 31) (hb : b < 2 ^ 31) : vk k < nI b ↔ k ≤ b := by
  cases k with
  | zero =>
    refine ⟨fun _ => Nat.zero_le _, fun _ => ?_⟩
    rw [Int32.lt_iff_toInt_lt, nI_toInt hb]
    have : (vk 0).toInt = -1 := by decide
    omega
  | succ k =>
    show nI k < nI b ↔ _
    rw [nI_ltI (by omega) hb]
    omega
section MJGR2
variable {X : mj_X} {d nc ns G H s : Nat} {Q : mj_Q} {I : Nat → Nat → Int32} {Lg : Nat → Nat → Int64} {Rf : Nat → Nat → Option Nat} {Lv sl le gs kd : Nat → Nat}
theorem c_99 (hR : mj_Rt mp_R Rf) (h : st_H I Lv sl le gs kd G s) {b : Nat} (hr : nc + 1 ≤ X.2.2.1 ∧ ns + 6 ≤ X.2.2.2)
    (hQ1 : G < 100 → ∀ I' : Nat → Nat → Int32, st_H I' Lv sl le (ud gs G s) (ud kd G b) (G + 1) s → (∀ c q, c ≠ 9 → c ≠ 15 → c ≠ 16 → I' c q = I c q) → (∀ q, q ≠ 8 → I' 9 q = I 9 q) → (∀ l, l ≤ G → st_T I' Lv sl le (ud gs G s) (G + 1) s l = st_T I Lv sl le gs G s l) → Q (.inl none) (sh59, I', Lg, Rf, nc, ns)) (hQ2 : G = 100 → Q (.inr 500) (sh59, mj_up I 1 0 2, Lg, Rf, nc + 1, ns + 6)) :
    mj_call X mj_P (mj_bi X) (d + 2) 99 [.ref 9, .int (nI b)] (sh59, I, Lg, Rf, nc, ns) Q := by
  obtain ⟨h1, h2, h3, h4, h5, h6, h7, h8⟩ := h
  have r6 := hR.at (a := 9) (b := 6) (c := 15) (by decide)
  have r7 := hR.at (a := 9) (b := 7) (c := 16) (by decide)
  have r9 := hR.at (a := 9) (b := 9) (c := 1) (by decide)
  have eG : (nI G).toNatClampNeg = G := nI_clamp (by omega)
  have u1 : ∀ (J : Nat → Nat → Int32) (j : Nat) (w : Int32) (q : Nat), mj_up J 15 j w 9 q = J 9 q := fun J j w q => mjs_up_c (by decide)
  have u2 : ∀ (J : Nat → Nat → Int32) (j : Nat) (w : Int32) (q : Nat), mj_up J 16 j w 9 q = J 9 q := fun J j w q => mjs_up_c (by decide)
  refine mj_enter (z := (2, [], mb_99)) (by decide) rfl rfl ?_
  refine mj_blk rfl ?_
  simp +decide only [mjs_0, mjs_1, mjs_2, mjs_3, mjs_ble, true_and, Bool.false_eq_true, if_false, if_true, Nat.reduceAdd, Nat.reduceSub, Nat.reduceLeDiff, mjs_ob s59_9, h5]
  refine ⟨fun q => mj_blk rfl ?_, fun q => mj_blk rfl ?_⟩
  · have hG : G < 100 := (nI_ltI (by omega) (by decide)).mp (show nI G < nI 100 from q)
    simp +decide only [mjs_0, mjs_1, mjs_2, mjs_3, mjs_ble, true_and, Bool.false_eq_true, if_false, if_true, Nat.reduceAdd, Nat.reduceSub, Nat.reduceLeDiff, mjs_ob s59_9, r6, r7, h5, h4, mjs_ar (t := 0) s59_15, mjs_ar (t := 0) s59_16, eG, u1, u2, nI_1]
    refine ⟨nI_in hG (by decide), nI_in hG (by decide), hQ1 hG _ ⟨fun x hx => ?_, fun i hi => ?_, fun l hl => ?_, ?_, ?_, ⟨by omega, h6.2⟩, lv_openI h7, h8⟩ (fun c q b1 b2 b3 => ?_) (fun q hq => ?_) (fun l hl => ?_)⟩
    · simp only [mjs_up_c (show (12 : Nat) ≠ 9 by decide), mjs_up_c (show (12 : Nat) ≠ 15 by decide), mjs_up_c (show (12 : Nat) ≠ 16 by decide)]
      exact h1 x hx
    · simp only [mjs_up_c (show (13 : Nat) ≠ 9 by decide), mjs_up_c (show (13 : Nat) ≠ 15 by decide), mjs_up_c (show (13 : Nat) ≠ 16 by decide)]
      exact h2 i hi
    · simp only [mjs_up_c (show (16 : Nat) ≠ 9 by decide), mjs_up_c (show (15 : Nat) ≠ 9 by decide), mjs_up_c (show (15 : Nat) ≠ 16 by decide)]
      by_cases hl' : l = G
      · rw [hl', mjs_up_at, mjs_up_at, ud_at, ud_at]
        exact ⟨rfl, rfl⟩
      · rw [mjs_up_ne (Or.inr hl'), mjs_up_ne (Or.inr hl'), mjs_up_ne (Or.inr hl'), ud_ne hl', ud_ne hl']
        exact h3 l (by omega)
    · simp +decide only [mjs_0, mjs_1, mjs_2, mjs_3, mjs_ble, true_and, Bool.false_eq_true, if_false, if_true, Nat.reduceAdd, Nat.reduceSub, Nat.reduceLeDiff, mjs_lit, mjs_ttb, Nat.reduceEqDiff, h4]
    · simp +decide only [mjs_0, mjs_1, mjs_2, mjs_3, mjs_ble, true_and, Bool.false_eq_true, if_false, if_true, Nat.reduceAdd, Nat.reduceSub, Nat.reduceLeDiff, mjs_lit, mjs_ttb, Nat.reduceEqDiff]
    · rw [mjs_up_c b1, mjs_up_c b3, mjs_up_c b2]
    · rw [mjs_up_ne (Or.inr hq), mjs_up_c (by decide), mjs_up_c (by decide)]
    · unfold st_T
      rw [mj_up_off (show (10 : Nat) ≠ 9 by decide), mj_up_off (show (10 : Nat) ≠ 16 by decide), mj_up_off (show (10 : Nat) ≠ 15 by decide), mj_up_off (show (14 : Nat) ≠ 9 by decide), mj_up_off (show (14 : Nat) ≠ 16 by decide), mj_up_off (show (14 : Nat) ≠ 15 by decide)]
      exact lv_open l hl
  · simp +decide only [mjs_0, mjs_1, mjs_2, mjs_3, mjs_ble, true_and, Bool.false_eq_true, if_false, if_true, Nat.reduceAdd, Nat.reduceSub, Nat.reduceLeDiff, mjs_ob s59_9, r9, mjs_rc s59_1]
    refine c_80 s59_1 hr ?_
    simp +decide only [mjs_0, mjs_1, mjs_2, mjs_3, mjs_ble, true_and, Bool.false_eq_true, if_false, if_true, Nat.reduceAdd, Nat.reduceSub, Nat.reduceLeDiff]
    refine hQ2 ?_
    rcases Nat.lt_or_eq_of_le h6.1 with h | h
    · exact absurd (show nI G < nI 100 from nI_lt h (by decide)) q
    · exact h
theorem c_102 (hR : mj_Rt mp_R Rf) (h : st_H I Lv sl le gs kd (H + 1) s)
    (hQ : ∀ (I' : Nat → Nat → Int32) (Lv' : Nat → Nat), st_H I' Lv' sl le gs kd H (gs H) → gs H ≤ s → (∀ c q, c ≠ 9 → c ≠ 10 → c ≠ 12 → I' c q = I c q) → (∀ q, q ≠ 5 → q ≠ 8 → I' 9 q = I 9 q) → (∀ l, l ≤ H → st_T I' Lv' sl le gs H (gs H) l = st_T I Lv sl le gs (H + 1) s l) → Q (.inl none) (sh59, I', Lg, Rf, nc, ns)) :
    mj_call X mj_P (mj_bi X) (d + 1) 102 [.ref 9] (sh59, I, Lg, Rf, nc, ns) Q := by
  obtain ⟨h1, h2, h3, h4, h5, h6, h7, h8⟩ := h
  have r0 := hR.at (a := 9) (b := 0) (c := 10) (by decide)
  have r2 := hR.at (a := 9) (b := 2) (c := 12) (by decide)
  have r3 := hR.at (a := 9) (b := 3) (c := 13) (by decide)
  have r4 := hR.at (a := 9) (b := 4) (c := 14) (by decide)
  have r7 := hR.at (a := 9) (b := 7) (c := 16) (by decide)
  have eH : (nI H).toNatClampNeg = H := nI_clamp (by omega)
  have eg : lv_g gs (H + 1) s H = gs H := by unfold lv_g; rw [if_pos (by omega)]
  have hgs : gs H ≤ s := by
    have := lv_le h7 (show H ≤ H + 1 by omega)
    rw [eg] at this
    exact this
  have hle : ∀ i, gs H ≤ i → i < s → le i ≤ H := fun i a b => (h7.2.2.2 i H (by omega) (by rw [eg]; exact a) (by rw [lv_g_G]; exact b)).1
  have L27 : ∀ (n k : Nat) (J : Nat → Nat → Int32) (LvJ : Nat → Nat) (w : Option Value), k = gs H + n → k ≤ s → (J 10, LvJ) = us_n sl le (I 14) (s - k) k (I 10, Lv) → (∀ x, x < 1804 → J 12 x = nI (LvJ x)) → (∀ x, 1804 ≤ x → LvJ x = 0) → (∀ x, LvJ x ≤ H + 1) → (∀ c q, c ≠ 9 → c ≠ 10 → c ≠ 12 → J c q = I c q) → (∀ q, q ≠ 8 → J 9 q = I 9 q) → J 9 8 = nI H →
      mj_rn X (mj_hd []) (mj_call X mj_P (mj_bi X) d) mb_102 27 [some (.ref 9), some (.int (nI (gs H))), some (.int (vk k)), w] [] (sh59, J, Lg, Rf, nc, ns) Q := by
    intro n
    induction n with
    | zero =>
      intro k J LvJ w hk hks hst hJ12 hJ0 hJl hJ hJ9 hJ98
      obtain rfl : k = gs H := by omega
      refine mj_blk rfl ?_
      simp +decide only [mjs_0, mjs_1, mjs_2, mjs_3, mjs_ble, true_and, Bool.false_eq_true, if_false, if_true, Nat.reduceAdd, Nat.reduceSub, Nat.reduceLeDiff]
      refine ⟨fun _ => mj_blk rfl ?_, fun q => absurd ((vk_lt (by omega) (by omega)).mpr (Nat.le_refl _)) q⟩
      simp +decide only [mjs_0, mjs_1, mjs_2, mjs_3, mjs_ble, true_and, Bool.false_eq_true, if_false, if_true, Nat.reduceAdd, Nat.reduceSub, Nat.reduceLeDiff, mjs_ob s59_9]
      have e1 : (us_n sl le (I 14) (s - gs H) (gs H) (I 10, Lv)).1 = J 10 := by rw [← hst]
      have e2 : (us_n sl le (I 14) (s - gs H) (gs H) (I 10, Lv)).2 = LvJ := by rw [← hst]
      have hclI := lv_closeI (va := I 14) (V := I 10) h7
      rw [e2] at hclI
      refine hQ _ LvJ ⟨fun x hx => ?_, fun i hi => ?_, fun l hl => ?_, ?_, ?_, ⟨by omega, by omega⟩, hclI, hJ0⟩ hgs (fun c q b1 b2 b3 => ?_) (fun q b1 b2 => ?_) (fun l hl => ?_)
      · rw [mjs_up_c (by decide)]
        exact hJ12 x hx
      · rw [mjs_up_c (by decide), hJ 13 i (by decide) (by decide) (by decide)]
        exact h2 i (by omega)
      · rw [mjs_up_c (by decide), mjs_up_c (by decide), hJ 16 l (by decide) (by decide) (by decide), hJ 15 l (by decide) (by decide) (by decide)]
        exact h3 l (by omega)
      · rw [mjs_up_at]
      · rw [mjs_up_ne (Or.inr (by decide))]
        exact hJ98
      · rw [mjs_up_c b1]
        exact hJ c q b1 b2 b3
      · rw [mjs_up_ne (Or.inr b1)]
        exact hJ9 q b2
      · unfold st_T
        have e14 : J 14 = I 14 := by
          funext q
          exact hJ 14 q (by decide) (by decide) (by decide)
        have := lv_close (va := I 14) (V := I 10) h7 hl
        rw [e1, e2] at this
        rw [mj_up_off (show (10 : Nat) ≠ 9 by decide), mj_up_off (show (14 : Nat) ≠ 9 by decide), e14]
        exact this
    | succ n ih =>
      intro k J LvJ w hk hks hst hJ12 hJ0 hJl hJ hJ9 hJ98
      obtain ⟨k, rfl⟩ : ∃ k', k = k' + 1 := ⟨k - 1, by omega⟩
      have hkx := h2 k (by omega)
      have hlk := hle k (by omega) (by omega)
      have ek : (nI k).toNatClampNeg = k := nI_clamp (by omega)
      have esl : (nI (sl k)).toNatClampNeg = sl k := nI_clamp (by omega)
      have g13 : J 13 k = nI (1804 * le k + sl k) := (hJ 13 k (by decide) (by decide) (by decide)).trans hkx.1
      have em : nI (1804 * le k + sl k) - nI (1804 * le k + sl k) / 1804 * 1804 = nI (sl k) := by
        have := pk_rem (a := 1804 * le k + sl k) (d := 1804) (by omega) (by decide) (by decide)
        rw [show (1804 * le k + sl k) % 1804 = sl k by omega] at this
        exact this
      have ed : nI (1804 * le k + sl k) / 1804 = nI (le k) := by
        have := pk_div (a := 1804 * le k + sl k) (d := 1804) (by omega) (by decide) (by decide)
        rw [show (1804 * le k + sl k) / 1804 = le k by omega] at this
        exact this
      have hst1 : us_n sl le (I 14) (s - k) k (I 10, Lv) = us_1 sl le (I 14) k (J 10, LvJ) := by
        have := us_add (sl := sl) (le := le) (va := I 14) (s - (k + 1)) 1 k (I 10, Lv)
        rw [show 1 + (s - (k + 1)) = s - k by omega, ← hst] at this
        exact this
      refine mj_blk rfl ?_
      simp +decide only [mjs_0, mjs_1, mjs_2, mjs_3, mjs_ble, true_and, Bool.false_eq_true, if_false, if_true, Nat.reduceAdd, Nat.reduceSub, Nat.reduceLeDiff]
      refine ⟨fun q => absurd ((vk_lt (by omega) (by omega)).mp q) (by omega), fun _ => mj_blk rfl ?_⟩
      have ev : vk (k + 1) = nI k := rfl
      have n0 : ¬ (1804 : Int32) = 0 := by decide
      simp +decide only [mjs_0, mjs_1, mjs_2, mjs_3, mjs_ble, true_and, Bool.false_eq_true, if_false, if_true, Nat.reduceAdd, Nat.reduceSub, Nat.reduceLeDiff, mjs_ob s59_9, r3, r2, mjs_ar (t := 0) s59_13, mjs_ar (t := 0) s59_12, ev, ek, g13, em, esl, hJ12 (sl k) hkx.2]
      refine ⟨nI_in (by omega) (by decide), nI_in hkx.2 (by decide), fun q => ?_, fun q => mj_blk rfl ?_⟩
      · have hz : LvJ (sl k) = 0 := tk_0 (by have := hJl (sl k); omega) q
        refine mj_blk rfl ?_
        simp +decide only [mjs_0, mjs_1, mjs_2, mjs_3, mjs_ble, true_and, Bool.false_eq_true, if_false, if_true, Nat.reduceAdd, Nat.reduceSub, Nat.reduceLeDiff, vk_dec]
        refine ih k J LvJ _ (by omega) (by omega) ?_ hJ12 hJ0 hJl hJ hJ9 hJ98
        rw [hst1]
        unfold us_1
        rw [if_pos hz]
      · have hz : ¬ LvJ (sl k) = 0 := fun e => q (by rw [e]; rfl)
        have g14 : J 14 k = I 14 k := hJ 14 k (by decide) (by decide) (by decide)
        have u1 : ∀ (w : Int32), mj_up J 10 (sl k) w 13 k = J 13 k := fun w => mjs_up_c (by decide)
        simp +decide only [mjs_0, mjs_1, mjs_2, mjs_3, mjs_ble, true_and, Bool.false_eq_true, if_false, if_true, Nat.reduceAdd, Nat.reduceSub, Nat.reduceLeDiff, mjs_ob s59_9, r0, r4, r2, r3, mjs_ar (t := 0) s59_14, mjs_ar (t := 0) s59_10, mjs_ar (t := 0) s59_13, mjs_ar (t := 0) s59_12, ek, esl, u1, g13, ed, g14]
        refine ⟨nI_in (by omega) (by decide), nI_in hkx.2 (by decide), nI_in (by omega) (by decide), nI_in hkx.2 (by decide), ?_⟩
        refine mj_blk rfl ?_
        simp +decide only [mjs_0, mjs_1, mjs_2, mjs_3, mjs_ble, true_and, Bool.false_eq_true, if_false, if_true, Nat.reduceAdd, Nat.reduceSub, Nat.reduceLeDiff, vk_dec]
        refine ih k _ (ud LvJ (sl k) (le k)) _ (by omega) (by omega) ?_ (fun x hx => ?_) (fun x hx => ?_) (fun x => ?_) (fun c q b1 b2 b3 => ?_) (fun q hq => ?_) ?_
        · rw [hst1]
          unfold us_1
          rw [if_neg hz, mj_up_off (show (10 : Nat) ≠ 12 by decide), mj_up_row]
        · by_cases hx' : x = sl k
          · rw [hx', mjs_up_at, ud_at]
          · rw [mjs_up_ne (Or.inr hx'), ud_ne hx', mjs_up_c (by decide)]
            exact hJ12 x hx
        · rw [ud_ne (by have := hkx.2; omega)]
          exact hJ0 x hx
        · by_cases hx' : x = sl k
          · rw [hx', ud_at]
            omega
          · rw [ud_ne hx']
            exact hJl x
        · rw [mjs_up_c b3, mjs_up_c b2]
          exact hJ c q b1 b2 b3
        · rw [mjs_up_c (by decide), mjs_up_c (by decide)]
          exact hJ9 q hq
        · rw [mjs_up_c (by decide), mjs_up_c (by decide)]
          exact hJ98
  have g16 : ∀ q, mj_up I 9 8 (nI H) 16 q = I 16 q := fun q => mjs_up_c (by decide)
  have g95 : mj_up I 9 8 (nI H) 9 5 = nI s := (mjs_up_ne (Or.inr (by decide))).trans h4
  refine mj_enter (z := (4, [], mb_102)) (by decide) rfl rfl ?_
  refine mj_blk rfl ?_
  simp +decide only [mjs_0, mjs_1, mjs_2, mjs_3, mjs_ble, true_and, Bool.false_eq_true, if_false, if_true, Nat.reduceAdd, Nat.reduceSub, Nat.reduceLeDiff, mjs_ob s59_9, h5, nI_pred, r7, mjs_up_at, mjs_ar (t := 0) s59_16, eH, g16, (h3 H (by omega)).1, g95, vk_sub]
  refine ⟨nI_in (by omega) (by decide), ?_⟩
  refine L27 (s - gs H) s _ Lv _ (by omega) (Nat.le_refl _) ?_ (fun x hx => ?_) h8 h7.2.1 (fun c q b1 b2 b3 => mjs_up_c b1) (fun q hq => mjs_up_ne (Or.inr hq)) mjs_up_at
  · rw [Nat.sub_self, mj_up_off (show (10 : Nat) ≠ 9 by decide)]
    rfl
  · rw [mjs_up_c (by decide)]
    exact h1 x hx
end MJGR2
