/-! THE CLASS's STORE against the levels' tables -/
theorem mj_up_row {α : Type} {f : Nat → Nat → α} {a j : Nat} {v : α} : mj_up f a j v a = ud (f a) j v := by
  funext k
  unfold mj_up ud
  rw [if_pos rfl]
theorem mj_up_off {α : Type} {f : Nat → Nat → α} {a j b : Nat} {v : α} (h : b ≠ a) : mj_up f a j v b = f b := by
  funext k
  exact mjs_up_c h
/-- levels Lv, entries' slots sl and levels le, groups' beginnings gs and kinds kd, G groups, s entries -/
def st_H (I : Nat → Nat → Int32) (Lv sl le gs kd : Nat → Nat) (G s : Nat) : Prop := (∀ x, x < 1804 → I 12 x = nI (Lv x)) ∧ (∀ i, i < s → I 13 i = nI (1804 * le i + sl i) ∧ sl i < 1804) ∧ (∀ g, g < G → I 16 g = nI (gs g) ∧ I 15 g = nI (kd g)) ∧ I 9 5 = nI s ∧ I 9 8 = nI G ∧ (G ≤ 100 ∧ s ≤ 30001) ∧ lv_I Lv sl le gs G s ∧ ∀ x, 1804 ≤ x → Lv x = 0
def st_T (I : Nat → Nat → Int32) (Lv sl le gs : Nat → Nat) (G s g : Nat) : Nat → Int32 := lv_T (I 10) Lv sl le (I 14) gs G s g
section MJST2
variable {X : mj_X} {d nc ns G s : Nat} {Q : mj_Q} {I : Nat → Nat → Int32} {Lg : Nat → Nat → Int64} {Rf : Nat → Nat → Option Nat} {Lv sl le gs kd : Nat → Nat}
theorem c_98 (hR : mj_Rt mp_R Rf) (h : st_H I Lv sl le gs kd G s) (hs : s ≤ 30000) {x : Nat} (hx : x < 1804) {v : Int32} {g : Nat} (hg : g = 0 ∨ g = 1)
    (hQ : ∀ (I' : Nat → Nat → Int32) (Lv' sl' le' : Nat → Nat) (s' : Nat), st_H I' Lv' sl' le' gs kd G s' → s' ≤ s + 1 → (∀ b q, b ≠ 9 → b ≠ 10 → b ≠ 12 → b ≠ 13 → b ≠ 14 → I' b q = I b q) → (∀ q, q ≠ 5 → I' 9 q = I 9 q) → I' 10 = ud (I 10) x v → (∀ l, l < G → st_T I' Lv' sl' le' gs G s' l = if g = 0 then st_T I Lv sl le gs G s l else ud (st_T I Lv sl le gs G s l) x v) → Q (.inl none) (sh59, I', Lg, Rf, nc, ns)) :
    mj_call X mj_P (mj_bi X) (d + 1) 98 [.ref 9, .int (nI x), .int v, .int (nI g)] (sh59, I, Lg, Rf, nc, ns) Q := by
  have h' := h
  obtain ⟨h1, h2, h3, h4, h5, h6, h7, h8⟩ := h
  have r0 := hR.at (a := 9) (b := 0) (c := 10) (by decide)
  have r2 := hR.at (a := 9) (b := 2) (c := 12) (by decide)
  have r3 := hR.at (a := 9) (b := 3) (c := 13) (by decide)
  have r4 := hR.at (a := 9) (b := 4) (c := 14) (by decide)
  have e0 : (nI x).toNatClampNeg = x := nI_clamp (by omega)
  have es : (nI s).toNatClampNeg = s := nI_clamp (by omega)
  have L102 : ∀ (I1 : Nat → Nat → Int32) (Lv' sl' le' : Nat → Nat) (s' : Nat), st_H (mj_up I1 10 x v) Lv' sl' le' gs kd G s' → s' ≤ s + 1 → (∀ b q, b ≠ 9 → b ≠ 12 → b ≠ 13 → b ≠ 14 → I1 b q = I b q) → (∀ q, q ≠ 5 → I1 9 q = I 9 q) → (∀ l, l < G → st_T (mj_up I1 10 x v) Lv' sl' le' gs G s' l = if g = 0 then st_T I Lv sl le gs G s l else ud (st_T I Lv sl le gs G s l) x v) →
      ∀ w : Option Value, mj_rn X (mj_hd []) (mj_call X mj_P (mj_bi X) d) mb_98 102 [some (.ref 9), some (.int (nI x)), some (.int v), w] [] (sh59, I1, Lg, Rf, nc, ns) Q := by
    intro I1 Lv' sl' le' s' a1 a2 a3 a4 a5 w
    refine mj_blk rfl ?_
    simp +decide only [mjs_0, mjs_1, mjs_2, mjs_3, mjs_ble, true_and, Bool.false_eq_true, if_false, if_true, Nat.reduceAdd, Nat.reduceSub, Nat.reduceLeDiff, mjs_ob s59_9, r0, mjs_ar (t := 0) s59_10, e0]
    refine ⟨nI_in hx (by decide), hQ _ Lv' sl' le' s' a1 a2 (fun b q b1 b2 b3 b4 b5 => ?_) (fun q hq => ?_) ?_ a5⟩
    · rw [mjs_up_c b2]
      exact a3 b q b1 b3 b4 b5
    · rw [mjs_up_c (by decide)]
      exact a4 q hq
    · rw [mj_up_row]
      congr 1
      funext q
      exact a3 10 q (by decide) (by decide) (by decide) (by decide)
  refine mj_enter (z := (4, [], mb_98)) (by decide) rfl rfl ?_
  refine mj_blk rfl ?_
  rcases hg with rfl | rfl
  · simp +decide only [mjs_0, mjs_1, mjs_2, mjs_3, mjs_ble, true_and, Bool.false_eq_true, if_false, if_true, Nat.reduceAdd, Nat.reduceSub, Nat.reduceLeDiff]
    refine ⟨fun _ => mj_blk rfl ?_, fun q => q.elim⟩
    simp +decide only [mjs_0, mjs_1, mjs_2, mjs_3, mjs_ble, true_and, Bool.false_eq_true, if_false, if_true, Nat.reduceAdd, Nat.reduceSub, Nat.reduceLeDiff, mjs_ob s59_9, r2, mjs_ar (t := 0) s59_12, e0, h1 x hx, h5]
    have hlx := h7.2.1 x
    refine ⟨nI_in hx (by decide), fun q => ?_, fun q => mj_blk rfl ?_⟩
    · have hG : Lv x = G := (nI_eq (by omega) (by omega)).mp q
      refine L102 I Lv sl le s ?_ (by omega) (fun _ _ _ _ _ _ => rfl) (fun _ _ => rfl) (fun l hl => ?_) _
      · exact ⟨fun y hy => by rw [mjs_up_c (by decide)]; exact h1 y hy, fun i hi => by rw [mjs_up_c (by decide)]; exact h2 i hi, fun l hl => by rw [mjs_up_c (by decide), mjs_up_c (by decide)]; exact h3 l hl, by rw [mjs_up_c (by decide)]; exact h4, by rw [mjs_up_c (by decide)]; exact h5, h6, h7, h8⟩
      · rw [if_pos rfl]
        unfold st_T
        rw [mj_up_row, mj_up_off (show (14 : Nat) ≠ 10 by decide)]
        exact lv_set1 h7 hG hl
    · have hG : Lv x ≠ G := fun e => q (by rw [e])
      simp +decide only [mjs_0, mjs_1, mjs_2, mjs_3, mjs_ble, true_and, Bool.false_eq_true, if_false, if_true, Nat.reduceAdd, Nat.reduceSub, Nat.reduceLeDiff, mjs_ob s59_9, h4]
      refine ⟨fun _ => mj_blk rfl ?_, fun q => absurd (show nI s < nI 30001 from nI_lt (by omega) (by decide)) q⟩
      have u1 : ∀ (J : Nat → Nat → Int32) (j : Nat) (w : Int32) (q : Nat), mj_up J 13 j w 9 q = J 9 q := fun J j w q => mjs_up_c (by decide)
      have u2 : ∀ (J : Nat → Nat → Int32) (j : Nat) (w : Int32) (q : Nat), mj_up J 14 j w 9 q = J 9 q := fun J j w q => mjs_up_c (by decide)
      have u3 : ∀ (J : Nat → Nat → Int32) (j : Nat) (w : Int32) (q : Nat), mj_up J 13 j w 10 q = J 10 q := fun J j w q => mjs_up_c (by decide)
      have u4 : ∀ (J : Nat → Nat → Int32) (w : Int32), mj_up J 9 5 w 9 8 = J 9 8 := fun J w => mjs_up_ne (Or.inr (by decide))
      have e1 : (1804 : Int32) * nI (Lv x) = nI (1804 * Lv x) := pk_mul 1804 _
      simp +decide only [mjs_0, mjs_1, mjs_2, mjs_3, mjs_ble, true_and, Bool.false_eq_true, if_false, if_true, Nat.reduceAdd, Nat.reduceSub, Nat.reduceLeDiff, mjs_ob s59_9, r3, r2, r4, r0, h4, mjs_ar (t := 0) s59_12, mjs_ar (t := 0) s59_13, mjs_ar (t := 0) s59_14, mjs_ar (t := 0) s59_10, e0, es, h1 x hx, e1, nI_add, u1, u2, u3, u4, nI_1, h5]
      refine ⟨nI_in hx (by decide), nI_in (by omega) (by decide), nI_in hx (by decide), nI_in (by omega) (by decide), nI_in hx (by decide), ?_⟩
      refine L102 _ (ud Lv x G) (ud sl s x) (ud le s (Lv x)) (s + 1) ⟨fun y hy => ?_, fun i hi => ?_, fun l hl => ?_, ?_, ?_, ⟨h6.1, by omega⟩, lv_set2I h7 hG, fun y hy => ?_⟩ (Nat.le_refl _) (fun b q b1 b2 b3 b4 => ?_) (fun q hq => ?_) (fun l hl => ?_) _
      · rw [mjs_up_c (by decide)]
        by_cases hy' : y = x
        · rw [hy', mjs_up_at, ud_at]
        · rw [mjs_up_ne (Or.inr hy'), ud_ne hy', mjs_up_c (by decide), mjs_up_c (by decide), mjs_up_c (by decide)]
          exact h1 y hy
      · rw [mjs_up_c (by decide), mjs_up_c (by decide), mjs_up_c (by decide), mjs_up_c (by decide)]
        by_cases hi' : i = s
        · rw [hi', mjs_up_at, ud_at, ud_at]
          exact ⟨rfl, hx⟩
        · rw [mjs_up_ne (Or.inr hi'), ud_ne hi', ud_ne hi']
          exact h2 i (by omega)
      · simp only [mjs_up_c (show (16 : Nat) ≠ 10 by decide), mjs_up_c (show (16 : Nat) ≠ 12 by decide), mjs_up_c (show (16 : Nat) ≠ 9 by decide), mjs_up_c (show (16 : Nat) ≠ 14 by decide), mjs_up_c (show (16 : Nat) ≠ 13 by decide), mjs_up_c (show (15 : Nat) ≠ 10 by decide), mjs_up_c (show (15 : Nat) ≠ 12 by decide), mjs_up_c (show (15 : Nat) ≠ 9 by decide), mjs_up_c (show (15 : Nat) ≠ 14 by decide), mjs_up_c (show (15 : Nat) ≠ 13 by decide)]
        exact h3 l hl
      · simp +decide only [mjs_0, mjs_1, mjs_2, mjs_3, mjs_ble, true_and, Bool.false_eq_true, if_false, if_true, Nat.reduceAdd, Nat.reduceSub, Nat.reduceLeDiff, mjs_lit, mjs_ttb, Nat.reduceEqDiff]
      · simp +decide only [mjs_0, mjs_1, mjs_2, mjs_3, mjs_ble, true_and, Bool.false_eq_true, if_false, if_true, Nat.reduceAdd, Nat.reduceSub, Nat.reduceLeDiff, mjs_lit, mjs_ttb, Nat.reduceEqDiff, h5]
      · rw [ud_ne (by omega)]
        exact h8 y hy
      · rw [mjs_up_c b2, mjs_up_c b1, mjs_up_c b4, mjs_up_c b3]
      · rw [mjs_up_c (by decide), mjs_up_ne (Or.inr hq), mjs_up_c (by decide), mjs_up_c (by decide)]
      · rw [if_pos rfl]
        unfold st_T
        rw [mj_up_row, mj_up_off (show (10 : Nat) ≠ 12 by decide), mj_up_off (show (10 : Nat) ≠ 9 by decide), mj_up_off (show (10 : Nat) ≠ 14 by decide), mj_up_off (show (10 : Nat) ≠ 13 by decide), mj_up_off (show (14 : Nat) ≠ 10 by decide), mj_up_off (show (14 : Nat) ≠ 12 by decide), mj_up_off (show (14 : Nat) ≠ 9 by decide), mj_up_row, mj_up_off (show (14 : Nat) ≠ 13 by decide)]
        exact lv_set2 h7 hG hl
  · simp +decide only [mjs_0, mjs_1, mjs_2, mjs_3, mjs_ble, true_and, Bool.false_eq_true, if_false, if_true, Nat.reduceAdd, Nat.reduceSub, Nat.reduceLeDiff]
    refine ⟨fun q => q.elim, fun _ => mj_blk rfl ?_⟩
    simp +decide only [mjs_0, mjs_1, mjs_2, mjs_3, mjs_ble, true_and, Bool.false_eq_true, if_false, if_true, Nat.reduceAdd, Nat.reduceSub, Nat.reduceLeDiff, mjs_ob s59_9, r2, mjs_ar (t := 0) s59_12, e0]
    refine ⟨nI_in hx (by decide), ?_⟩
    refine L102 _ (ud Lv x 0) sl le s ⟨fun y hy => ?_, fun i hi => by rw [mjs_up_c (by decide), mjs_up_c (by decide)]; exact h2 i hi, fun l hl => by rw [mjs_up_c (by decide), mjs_up_c (by decide), mjs_up_c (by decide), mjs_up_c (by decide)]; exact h3 l hl, by rw [mjs_up_c (by decide), mjs_up_c (by decide)]; exact h4, by rw [mjs_up_c (by decide), mjs_up_c (by decide)]; exact h5, h6, lv_globI h7, fun y hy => ?_⟩ (by omega) (fun b q b1 b2 b3 b4 => mjs_up_c b2) (fun q hq => mjs_up_c (by decide)) (fun l hl => ?_) _
    · rw [mjs_up_c (by decide)]
      by_cases hy' : y = x
      · rw [hy', mjs_up_at, ud_at]
        rfl
      · rw [mjs_up_ne (Or.inr hy'), ud_ne hy']
        exact h1 y hy
    · by_cases hy' : y = x
      · rw [hy', ud_at]
      · rw [ud_ne hy']
        exact h8 y hy
    · rw [if_neg (by decide)]
      unfold st_T
      rw [mj_up_row, mj_up_off (show (10 : Nat) ≠ 12 by decide), mj_up_off (show (14 : Nat) ≠ 10 by decide), mj_up_off (show (14 : Nat) ≠ 12 by decide)]
      exact lv_glob l
end MJST2
