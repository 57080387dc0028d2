/-! THE REFERENCE: ticks, OUT, meanings set, groups -/
section MJRG
variable {X : mj_X} {d nc ns m lv r : Nat} {Q : mj_Q} {sh : List (Nat × Nat)} {I : Nat → Nat → Int32} {Lg : Nat → Nat → Int64} {Rf : Nat → Nat → Option Nat} {S : mj_S}
theorem r_132 (hW : mr_W sh Rf m) {t mo : Nat} (ht : t + 1 < 2 ^ 31) (hm : mo < 2 ^ 31) (h36 : I m 36 = nI t) (h37 : I m 37 = nI mo) (h39 : I m 39 = 0)
    (hQ1 : t + 1 ≤ mo → Q (.inl none) (sh, mj_up I m 36 (nI (t + 1)), Lg, Rf, nc, ns)) (hQ2 : mo < t + 1 → Q (.inl none) (sh, mj_up (mj_up I m 36 (nI (t + 1))) m 39 10, Lg, Rf, nc, ns)) : mj_call X mj_P (mj_bi X) (d + 2) 132 [.ref m] (sh, I, Lg, Rf, nc, ns) Q := by
  have c1 := hW.1
  have e37 : mj_up I m 36 (nI (t + 1)) m 37 = nI mo := (mjs_up_ne (Or.inr (by decide))).trans h37
  have e39 : mj_up I m 36 (nI (t + 1)) m 39 = 0 := (mjs_up_ne (Or.inr (by decide))).trans h39
  refine mj_enter (z := (1, [], mb_132)) (by decide) rfl rfl ?_
  refine mj_blk rfl ?_
  simp +decide only [mjs_0, mjs_1, mjs_2, mjs_3, mjs_ble, true_and, Bool.false_eq_true, if_false, if_true, Nat.reduceAdd, Nat.reduceSub, Nat.reduceLeDiff, mjs_ob c1, h36, nI_1, mjs_up_at, e37]
  refine ⟨fun q => mj_blk rfl ?_, fun q => mj_blk rfl ?_⟩
  · simp +decide only [mjs_0, mjs_1, mjs_2, mjs_3, mjs_ble, true_and, Bool.false_eq_true, if_false, if_true, Nat.reduceAdd, Nat.reduceSub, Nat.reduceLeDiff]
    exact hQ1 ((nI_leI (by omega) hm).mp q)
  · have h : mo < t + 1 := by
      by_cases h : t + 1 ≤ mo
      · exact absurd (nI_le h hm) q
      · omega
    simp +decide only [mjs_0, mjs_1, mjs_2, mjs_3, mjs_ble, true_and, Bool.false_eq_true, if_false, if_true, Nat.reduceAdd, Nat.reduceSub, Nat.reduceLeDiff, mjs_rc c1]
    refine c_106 c1 ?_
    rw [if_pos e39]
    simp +decide only [mjs_0, mjs_1, mjs_2, mjs_3, mjs_ble, true_and, Bool.false_eq_true, if_false, if_true, Nat.reduceAdd, Nat.reduceSub, Nat.reduceLeDiff]
    refine mj_blk rfl ?_
    simp +decide only [mjs_0, mjs_1, mjs_2, mjs_3, mjs_ble, true_and, Bool.false_eq_true, if_false, if_true, Nat.reduceAdd, Nat.reduceSub, Nat.reduceLeDiff]
    exact hQ2 h
theorem r_163 (hW : mr_W sh Rf m) {k : Nat} (hk : k ≤ 8000) (h3 : I m 3 = nI k) (h39 : I m 39 = 0) {c : Int32}
    (hQ1 : k < 8000 → Q (.inl none) (sh, mj_up (mj_up I (m + 2) k (vp_nar .byte c.toInt8.toInt32)) m 3 (nI (k + 1)), Lg, Rf, nc, ns)) (hQ2 : k = 8000 → Q (.inl none) (sh, mj_up I m 39 2, Lg, Rf, nc, ns)) : mj_call X mj_P (mj_bi X) (d + 2) 163 [.ref m, .int c] (sh, I, Lg, Rf, nc, ns) Q := by
  obtain ⟨c1, hA⟩ := hW
  obtain ⟨r4, s4⟩ := hA 4 2 1004 8000 (by decide)
  have e0 : (nI k).toNatClampNeg = k := nI_clamp (by omega)
  have u1 : ∀ (J : Nat → Nat → Int32) (j : Nat) (w : Int32) (q : Nat), mj_up J (m + 2) j w m q = J m q := fun J j w q => mjs_up_c (by omega)
  refine mj_enter (z := (2, [], mb_163)) (by decide) rfl rfl ?_
  refine mj_blk rfl ?_
  simp +decide only [mjs_0, mjs_1, mjs_2, mjs_3, mjs_ble, true_and, Bool.false_eq_true, if_false, if_true, Nat.reduceAdd, Nat.reduceSub, Nat.reduceLeDiff, mjs_ob c1, h3]
  refine ⟨fun q => mj_blk rfl ?_, fun q => mj_blk rfl ?_⟩
  · have hk' : k < 8000 := by
      rcases Nat.lt_or_eq_of_le hk with h | h
      · exact h
      · exact absurd (by rw [h]; rfl) q
    simp +decide only [mjs_0, mjs_1, mjs_2, mjs_3, mjs_ble, true_and, Bool.false_eq_true, if_false, if_true, Nat.reduceAdd, Nat.reduceSub, Nat.reduceLeDiff, mjs_ob c1, r4, h3, mjs_ar (t := 4) s4, e0, u1, nI_1]
    refine ⟨nI_in (by omega) (by decide), mj_blk rfl ?_⟩
    simp +decide only [mjs_0, mjs_1, mjs_2, mjs_3, mjs_ble, true_and, Bool.false_eq_true, if_false, if_true, Nat.reduceAdd, Nat.reduceSub, Nat.reduceLeDiff]
    exact hQ1 hk'
  · have hk' : k = 8000 := (nI_eq (by omega) (by decide)).mp (show nI k = nI 8000 from Decidable.not_not.mp q)
    simp +decide only [mjs_0, mjs_1, mjs_2, mjs_3, mjs_ble, true_and, Bool.false_eq_true, if_false, if_true, Nat.reduceAdd, Nat.reduceSub, Nat.reduceLeDiff, mjs_rc c1]
    refine c_106 c1 ?_
    rw [if_pos h39]
    simp +decide only [mjs_0, mjs_1, mjs_2, mjs_3, mjs_ble, true_and, Bool.false_eq_true, if_false, if_true, Nat.reduceAdd, Nat.reduceSub, Nat.reduceLeDiff]
    refine mj_blk rfl ?_
    simp +decide only [mjs_0, mjs_1, mjs_2, mjs_3, mjs_ble, true_and, Bool.false_eq_true, if_false, if_true, Nat.reduceAdd, Nat.reduceSub, Nat.reduceLeDiff]
    exact hQ2 hk'
theorem r_165 (hW : mr_W sh Rf m) (hlv : I m 17 = nI lv) (hl : lv ≤ 100) (h39 : I m 39 = 0) {b : Int32}
    (hQ1 : ∀ g : Nat, lv = g + 1 → I (m + 8) lv = b → Q (.inl none) (sh, mj_up I m 17 (nI g), Lg, Rf, nc, ns)) (hQ2 : lv = 0 ∨ ¬ I (m + 8) lv = b → Q (.inl none) (sh, mj_up I m 39 13, Lg, Rf, nc, ns)) : mj_call X mj_P (mj_bi X) (d + 2) 165 [.ref m, .int b] (sh, I, Lg, Rf, nc, ns) Q := by
  obtain ⟨c1, hA⟩ := hW
  obtain ⟨r18, s18⟩ := hA 18 8 1003 102 (by decide)
  have e0 : (nI lv).toNatClampNeg = lv := nI_clamp (by omega)
  have K20 : (lv = 0 ∨ ¬ I (m + 8) lv = b) → ∀ w : Option Value, mj_rn X (mj_hd []) (mj_call X mj_P (mj_bi X) (d + 1)) mb_165 20 [some (.ref m), w] [] (sh, I, Lg, Rf, nc, ns) Q := by
    intro h w
    refine mj_blk rfl ?_
    simp +decide only [mjs_0, mjs_1, mjs_2, mjs_3, mjs_ble, true_and, Bool.false_eq_true, if_false, if_true, Nat.reduceAdd, Nat.reduceSub, Nat.reduceLeDiff, mjs_rc c1]
    refine c_106 c1 ?_
    rw [if_pos h39]
    simp +decide only [mjs_0, mjs_1, mjs_2, mjs_3, mjs_ble, true_and, Bool.false_eq_true, if_false, if_true, Nat.reduceAdd, Nat.reduceSub, Nat.reduceLeDiff]
    refine mj_blk rfl ?_
    simp +decide only [mjs_0, mjs_1, mjs_2, mjs_3, mjs_ble, true_and, Bool.false_eq_true, if_false, if_true, Nat.reduceAdd, Nat.reduceSub, Nat.reduceLeDiff]
    exact hQ2 h
  refine mj_enter (z := (2, [], mb_165)) (by decide) rfl rfl ?_
  refine mj_blk rfl ?_
  simp +decide only [mjs_0, mjs_1, mjs_2, mjs_3, mjs_ble, true_and, Bool.false_eq_true, if_false, if_true, Nat.reduceAdd, Nat.reduceSub, Nat.reduceLeDiff, mjs_ob c1, hlv]
  refine ⟨fun q => K20 (Or.inl (tk_0 (by omega) q)) _, fun q => mj_blk rfl ?_⟩
  simp +decide only [mjs_0, mjs_1, mjs_2, mjs_3, mjs_ble, true_and, Bool.false_eq_true, if_false, if_true, Nat.reduceAdd, Nat.reduceSub, Nat.reduceLeDiff, mjs_ob c1, r18, hlv, mjs_ar (t := 3) s18, e0]
  refine ⟨nI_in (by omega) (by decide), fun q' => mj_blk rfl ?_, fun q' => K20 (Or.inr q') _⟩
  obtain ⟨g, rfl⟩ : ∃ g, lv = g + 1 := ⟨lv - 1, by
    have : lv ≠ 0 := fun h => q (by rw [h]; rfl)
    omega⟩
  simp +decide only [mjs_0, mjs_1, mjs_2, mjs_3, mjs_ble, true_and, Bool.false_eq_true, if_false, if_true, Nat.reduceAdd, Nat.reduceSub, Nat.reduceLeDiff, mjs_ob c1, hlv, nI_pred]
  refine mj_blk rfl ?_
  simp +decide only [mjs_0, mjs_1, mjs_2, mjs_3, mjs_ble, true_and, Bool.false_eq_true, if_false, if_true, Nat.reduceAdd, Nat.reduceSub, Nat.reduceLeDiff]
  exact hQ1 g rfl q'
/-- a value set at one place of each level from l0 on -/
def mr_set (I I' : Nat → Nat → Int32) (a w k l0 l1 : Nat) (v : Int32) : Prop := (∀ b q, b ≠ a → I' b q = I b q) ∧ (∀ l, l0 ≤ l → l < l1 → I' a (w * l + k) = v) ∧ ∀ q, (∀ l, l0 ≤ l → l < l1 → q ≠ w * l + k) → I' a q = I a q
theorem mr_set_rf {a w k l0 : Nat} {v : Int32} : mr_set I I a w k l0 l0 v := ⟨fun _ _ _ => rfl, fun l h1 h2 => absurd h1 (by omega), fun _ _ => rfl⟩
theorem mr_set_st {I' : Nat → Nat → Int32} {a w k l0 l1 : Nat} {v : Int32} (hw : 0 < w) (h : mr_set I I' a w k l0 l1 v) (hl : l0 ≤ l1) : mr_set I (mj_up I' a (w * l1 + k) v) a w k l0 (l1 + 1) v := by
  obtain ⟨h1, h2, h3⟩ := h
  refine ⟨fun b q hb => ?_, fun l a1 a2 => ?_, fun q hq => ?_⟩
  · rw [mjs_up_c hb]
    exact h1 b q hb
  · by_cases e : l = l1
    · rw [e, mjs_up_at]
    · rw [mjs_up_ne (Or.inr (fun h => e (Nat.eq_of_mul_eq_mul_left hw (Nat.add_right_cancel h))))]
      exact h2 l a1 (by omega)
  · rw [mjs_up_ne (Or.inr (hq l1 hl (by omega)))]
    exact h3 q (fun l a1 a2 => hq l a1 (by omega))
theorem r_128 (hW : mr_W sh Rf m) (hr : r < 2 ^ 31) (hb : 65536 ≤ mr_ba r) (hid : mr_id (mr_ba r) < 1400) (hlv : I m 17 = nI lv) (hl : lv ≤ 100) {v : Int32} {g : Nat} (hg : g = 0 ∨ g = 1)
    (hQ : ∀ I' : Nat → Nat → Int32, mr_set I I' (m + 9) 1400 (mr_id (mr_ba r)) (if g = 0 then lv else 0) (lv + 1) v → Q (.inl none) (sh, I', Lg, Rf, nc, ns)) : mj_call X mj_P (mj_bi X) (d + 3) 128 [.ref m, .int (nI r), .int v, .int (nI g)] (sh, I, Lg, Rf, nc, ns) Q := by
  obtain ⟨c1, hA⟩ := hW
  obtain ⟨r19, s19⟩ := hA 19 9 1000 141400 (by decide)
  have L14 : ∀ l0 : Nat, l0 ≤ lv → (∀ I' : Nat → Nat → Int32, mr_set I I' (m + 9) 1400 (mr_id (mr_ba r)) l0 (lv + 1) v → Q (.inl none) (sh, I', Lg, Rf, nc, ns)) → ∀ (n l : Nat) (I' : Nat → Nat → Int32) (w : Option Value), l + n = lv + 1 → l0 ≤ l → mr_set I I' (m + 9) 1400 (mr_id (mr_ba r)) l0 l v →
      mj_rn X (mj_hd []) (mj_call X mj_P (mj_bi X) (d + 2)) mb_128 14 [some (.ref m), some (.int (nI r)), some (.int v), w, some (.int (nI l))] [] (sh, I', Lg, Rf, nc, ns) Q := by
    intro l0 hl0 hk n
    induction n with
    | zero =>
      intro l I' w hn hl0l hs
      have g17 : I' m 17 = nI lv := (hs.1 m 17 (by omega)).trans hlv
      obtain rfl : l = lv + 1 := by omega
      refine mj_blk rfl ?_
      simp +decide only [mjs_0, mjs_1, mjs_2, mjs_3, mjs_ble, true_and, Bool.false_eq_true, if_false, if_true, Nat.reduceAdd, Nat.reduceSub, Nat.reduceLeDiff, mjs_ob c1, g17]
      refine ⟨fun _ => mj_blk rfl ?_, fun q => absurd (nI_lt (by omega) (by omega)) q⟩
      simp +decide only [mjs_0, mjs_1, mjs_2, mjs_3, mjs_ble, true_and, Bool.false_eq_true, if_false, if_true, Nat.reduceAdd, Nat.reduceSub, Nat.reduceLeDiff]
      exact hk I' hs
    | succ n ih =>
      intro l I' w hn hl0l hs
      have g17 : I' m 17 = nI lv := (hs.1 m 17 (by omega)).trans hlv
      have e : (1400 : Int32) * nI l = nI (1400 * l) := pk_mul 1400 l
      have e2 : (nI (1400 * l + mr_id (mr_ba r))).toNatClampNeg = 1400 * l + mr_id (mr_ba r) := nI_clamp (by omega)
      refine mj_blk rfl ?_
      simp +decide only [mjs_0, mjs_1, mjs_2, mjs_3, mjs_ble, true_and, Bool.false_eq_true, if_false, if_true, Nat.reduceAdd, Nat.reduceSub, Nat.reduceLeDiff, mjs_ob c1, g17]
      refine ⟨fun q => absurd q (nI_nlt (by omega) (by omega)), fun _ => mj_blk rfl ?_⟩
      simp +decide only [mjs_0, mjs_1, mjs_2, mjs_3, mjs_ble, true_and, Bool.false_eq_true, if_false, if_true, Nat.reduceAdd, Nat.reduceSub, Nat.reduceLeDiff, mjs_ob c1, r19, e, mjs_rc c1]
      refine r_124 hr hb ?_
      simp +decide only [mjs_0, mjs_1, mjs_2, mjs_3, mjs_ble, true_and, Bool.false_eq_true, if_false, if_true, Nat.reduceAdd, Nat.reduceSub, Nat.reduceLeDiff, nI_add, mjs_ar (t := 0) s19, e2, nI_1]
      exact ⟨nI_in (by omega) (by decide), ih (l + 1) _ _ (by omega) (by omega) (mr_set_st (by decide) hs hl0l)⟩
  refine mj_enter (z := (5, [], mb_128)) (by decide) rfl rfl ?_
  refine mj_blk rfl ?_
  rcases hg with rfl | rfl
  · rw [if_pos rfl] at hQ
    simp +decide only [mjs_0, mjs_1, mjs_2, mjs_3, mjs_ble, true_and, Bool.false_eq_true, if_false, if_true, Nat.reduceAdd, Nat.reduceSub, Nat.reduceLeDiff]
    refine ⟨fun _ => mj_blk rfl ?_, fun q => q.elim⟩
    simp +decide only [mjs_0, mjs_1, mjs_2, mjs_3, mjs_ble, true_and, Bool.false_eq_true, if_false, if_true, Nat.reduceAdd, Nat.reduceSub, Nat.reduceLeDiff, mjs_ob c1, hlv]
    refine mj_blk rfl ?_
    simp +decide only [mjs_0, mjs_1, mjs_2, mjs_3, mjs_ble, true_and, Bool.false_eq_true, if_false, if_true, Nat.reduceAdd, Nat.reduceSub, Nat.reduceLeDiff]
    exact L14 lv (Nat.le_refl _) hQ 1 lv I _ rfl (Nat.le_refl _) mr_set_rf
  · rw [if_neg (by decide)] at hQ
    simp +decide only [mjs_0, mjs_1, mjs_2, mjs_3, mjs_ble, true_and, Bool.false_eq_true, if_false, if_true, Nat.reduceAdd, Nat.reduceSub, Nat.reduceLeDiff]
    refine ⟨fun q => q.elim, fun _ => mj_blk rfl ?_⟩
    simp +decide only [mjs_0, mjs_1, mjs_2, mjs_3, mjs_ble, true_and, Bool.false_eq_true, if_false, if_true, Nat.reduceAdd, Nat.reduceSub, Nat.reduceLeDiff]
    refine mj_blk rfl ?_
    simp +decide only [mjs_0, mjs_1, mjs_2, mjs_3, mjs_ble, true_and, Bool.false_eq_true, if_false, if_true, Nat.reduceAdd, Nat.reduceSub, Nat.reduceLeDiff]
    exact L14 0 (Nat.zero_le _) hQ (lv + 1) 0 I _ (by omega) (Nat.le_refl _) mr_set_rf
end MJRG
