/-! THE CLASS: groups closed; meanings -/
section MJCLO
variable {X : mj_X} {d nc ns G s : Nat} {Q : mj_Q} {I : Nat → Nat → Int32} {Lg : Nat → Nat → Int64} {Rf : Nat → Nat → Option Nat} {Lv sl le gs kd : Nat → Nat}
theorem c_100 (hR : mj_Rt mp_R Rf) (h : st_H I Lv sl le gs kd G s) {b : Int32} (hr : nc + 1 ≤ X.2.2.1 ∧ ns + 6 ≤ X.2.2.2)
    (hQ1 : ∀ (H : Nat) (I' : Nat → Nat → Int32) (Lv' : Nat → Nat), G = H + 1 → nI (kd H) = b → st_H I' Lv' sl le gs kd H (gs H) → gs H ≤ s → (∀ c q, c ≠ 9 → c ≠ 10 → c ≠ 12 → I' c q = I c q) → (∀ q, q ≠ 5 → q ≠ 8 → I' 9 q = I 9 q) → (∀ l, l ≤ H → st_T I' Lv' sl le gs H (gs H) l = st_T I Lv sl le gs (H + 1) s l) → Q (.inl none) (sh59, I', Lg, Rf, nc, ns))
    (hQ2 : (G = 0 ∨ ∃ H, G = H + 1 ∧ ¬ nI (kd H) = b) → Q (.inr 500) (sh59, mj_up I 1 0 13, Lg, Rf, nc + 1, ns + 6)) :
    mj_call X mj_P (mj_bi X) (d + 2) 100 [.ref 9, .int b] (sh59, I, Lg, Rf, nc, ns) Q := by
  have h' := h
  obtain ⟨h1, h2, h3, h4, h5, h6, h7, h8⟩ := h
  have r6 := hR.at (a := 9) (b := 6) (c := 15) (by decide)
  have r9 := hR.at (a := 9) (b := 9) (c := 1) (by decide)
  have K22 : (G = 0 ∨ ∃ H, G = H + 1 ∧ ¬ nI (kd H) = b) → ∀ w : Option Value, mj_rn X (mj_hd []) (mj_call X mj_P (mj_bi X) (d + 1)) mb_100 22 [some (.ref 9), w] [] (sh59, I, Lg, Rf, nc, ns) Q := by
    intro hh w
    refine mj_blk rfl ?_
    simp +decide only [mjs_0, mjs_1, mjs_2, mjs_3, mjs_ble, true_and, Bool.false_eq_true, if_false, if_true, Nat.reduceAdd, Nat.reduceSub, Nat.reduceLeDiff, mjs_ob s59_9, r9, mjs_rc s59_1]
    refine c_80 s59_1 hr ?_
    simp +decide only [mjs_0, mjs_1, mjs_2, mjs_3, mjs_ble, true_and, Bool.false_eq_true, if_false, if_true, Nat.reduceAdd, Nat.reduceSub, Nat.reduceLeDiff]
    exact hQ2 hh
  refine mj_enter (z := (2, [], mb_100)) (by decide) rfl rfl ?_
  refine mj_blk rfl ?_
  simp +decide only [mjs_0, mjs_1, mjs_2, mjs_3, mjs_ble, true_and, Bool.false_eq_true, if_false, if_true, Nat.reduceAdd, Nat.reduceSub, Nat.reduceLeDiff, mjs_ob s59_9, h5]
  refine ⟨fun q => K22 (Or.inl (tk_0 (by omega) q)) _, fun q => mj_blk rfl ?_⟩
  obtain ⟨H, rfl⟩ : ∃ H, G = H + 1 := ⟨G - 1, by
    have : G ≠ 0 := fun e => q (by rw [e]; rfl)
    omega⟩
  have eH : (nI H).toNatClampNeg = H := nI_clamp (by omega)
  simp +decide only [mjs_0, mjs_1, mjs_2, mjs_3, mjs_ble, true_and, Bool.false_eq_true, if_false, if_true, Nat.reduceAdd, Nat.reduceSub, Nat.reduceLeDiff, mjs_ob s59_9, r6, h5, nI_pred, mjs_ar (t := 0) s59_15, eH, (h3 H (by omega)).2]
  refine ⟨nI_in (by omega) (by decide), fun q' => mj_blk rfl ?_, fun q' => K22 (Or.inr ⟨H, rfl, q'⟩) _⟩
  simp +decide only [mjs_0, mjs_1, mjs_2, mjs_3, mjs_ble, true_and, Bool.false_eq_true, if_false, if_true, Nat.reduceAdd, Nat.reduceSub, Nat.reduceLeDiff, mjs_rc s59_9]
  refine c_102 hR h' (fun I' Lv' a1 a2 a3 a4 a5 => ?_)
  simp +decide only [mjs_0, mjs_1, mjs_2, mjs_3, mjs_ble, true_and, Bool.false_eq_true, if_false, if_true, Nat.reduceAdd, Nat.reduceSub, Nat.reduceLeDiff]
  exact hQ1 H I' Lv' rfl q' a1 a2 a3 a4 a5
theorem c_101 (hR : mj_Rt mp_R Rf) (h : st_H I Lv sl le gs kd G s)
    (hQ : ∀ (I' : Nat → Nat → Int32) (Lv' : Nat → Nat) (s' : Nat), st_H I' Lv' sl le gs kd 0 s' → s' ≤ s → (0 < G → s' = gs 0) → (G = 0 → s' = s) → (∀ c q, c ≠ 9 → c ≠ 10 → c ≠ 12 → I' c q = I c q) → (∀ q, q ≠ 5 → q ≠ 8 → I' 9 q = I 9 q) → I' 10 = st_T I Lv sl le gs G s 0 → Q (.inl none) (sh59, I', Lg, Rf, nc, ns)) :
    mj_call X mj_P (mj_bi X) (d + 2) 101 [.ref 9] (sh59, I, Lg, Rf, nc, ns) Q := by
  have hG100 := h.2.2.2.2.2.1.1
  have L2 : ∀ (G' i s' : Nat) (J : Nat → Nat → Int32) (LvJ : Nat → Nat), G' ≤ G → i + G' ≤ 100 → st_H J LvJ sl le gs kd G' s' → s' ≤ s → (G' < G → s' = gs G') → (G' = G → s' = s) → (∀ c q, c ≠ 9 → c ≠ 10 → c ≠ 12 → J c q = I c q) → (∀ q, q ≠ 5 → q ≠ 8 → J 9 q = I 9 q) → st_T J LvJ sl le gs G' s' 0 = st_T I Lv sl le gs G s 0 →
      mj_rn X (mj_hd []) (mj_call X mj_P (mj_bi X) (d + 1)) mb_101 2 [some (.ref 9), some (.int (nI i))] [] (sh59, J, Lg, Rf, nc, ns) Q := by
    intro G'
    induction G' with
    | zero =>
      intro i s' J LvJ hG' hi hst hs' hsg hse hJ hJ9 hT
      have K25 : mj_rn X (mj_hd []) (mj_call X mj_P (mj_bi X) (d + 1)) mb_101 25 [some (.ref 9), some (.int (nI i))] [] (sh59, J, Lg, Rf, nc, ns) Q := by
        refine mj_blk rfl ?_
        simp +decide only [mjs_0, mjs_1, mjs_2, mjs_3, mjs_ble, true_and, Bool.false_eq_true, if_false, if_true, Nat.reduceAdd, Nat.reduceSub, Nat.reduceLeDiff]
        refine hQ J LvJ s' hst hs' (fun hg => hsg hg) (fun hg => hse hg.symm) hJ hJ9 ?_
        rw [← hT]
        exact lv_T_G.symm
      refine mj_blk rfl ?_
      simp +decide only [mjs_0, mjs_1, mjs_2, mjs_3, mjs_ble, true_and, Bool.false_eq_true, if_false, if_true, Nat.reduceAdd, Nat.reduceSub, Nat.reduceLeDiff]
      refine ⟨fun _ => K25, fun _ => mj_blk rfl ?_⟩
      have e8 : J 9 8 = 0 := hst.2.2.2.2.1
      simp +decide only [mjs_0, mjs_1, mjs_2, mjs_3, mjs_ble, true_and, Bool.false_eq_true, if_false, if_true, Nat.reduceAdd, Nat.reduceSub, Nat.reduceLeDiff, mjs_ob s59_9, e8]
      exact ⟨fun _ => K25, fun q => q.elim⟩
    | succ H ih =>
      intro i s' J LvJ hG' hi hst hs' hsg hse hJ hJ9 hT
      have e8 : J 9 8 = nI (H + 1) := hst.2.2.2.2.1
      refine mj_blk rfl ?_
      simp +decide only [mjs_0, mjs_1, mjs_2, mjs_3, mjs_ble, true_and, Bool.false_eq_true, if_false, if_true, Nat.reduceAdd, Nat.reduceSub, Nat.reduceLeDiff]
      refine ⟨fun q => absurd q (nI_ge (a := i) (b := 100) (by omega) (by decide)), fun _ => mj_blk rfl ?_⟩
      simp +decide only [mjs_0, mjs_1, mjs_2, mjs_3, mjs_ble, true_and, Bool.false_eq_true, if_false, if_true, Nat.reduceAdd, Nat.reduceSub, Nat.reduceLeDiff, mjs_ob s59_9, e8]
      refine ⟨fun q => absurd q (nI_nle (by omega) (by omega)), fun _ => mj_blk rfl ?_⟩
      simp +decide only [mjs_0, mjs_1, mjs_2, mjs_3, mjs_ble, true_and, Bool.false_eq_true, if_false, if_true, Nat.reduceAdd, Nat.reduceSub, Nat.reduceLeDiff, mjs_rc s59_9]
      refine c_102 hR hst (fun I' Lv' a1 a2 a3 a4 a5 => ?_)
      simp +decide only [mjs_0, mjs_1, mjs_2, mjs_3, mjs_ble, true_and, Bool.false_eq_true, if_false, if_true, Nat.reduceAdd, Nat.reduceSub, Nat.reduceLeDiff, nI_1]
      refine ih (i + 1) (gs H) I' Lv' (by omega) (by omega) a1 (by omega) (fun _ => rfl) (fun e => by omega) (fun c q b1 b2 b3 => ?_) (fun q b1 b2 => ?_) ?_
      · rw [a3 c q b1 b2 b3]
        exact hJ c q b1 b2 b3
      · rw [a4 q b1 b2]
        exact hJ9 q b1 b2
      · rw [a5 0 (Nat.zero_le _)]
        exact hT
  refine mj_enter (z := (2, [], mb_101)) (by decide) rfl rfl ?_
  refine mj_blk rfl ?_
  simp +decide only [mjs_0, mjs_1, mjs_2, mjs_3, mjs_ble, true_and, Bool.false_eq_true, if_false, if_true, Nat.reduceAdd, Nat.reduceSub, Nat.reduceLeDiff]
  exact L2 G 0 s I Lv (Nat.le_refl _) (by omega) h (Nat.le_refl _) (fun e => absurd e (Nat.lt_irrefl _)) (fun _ => rfl) (fun _ _ _ _ _ => rfl) (fun _ _ _ => rfl) rfl
/-- a token's meaning in the class -/
def cm_sl (t : Nat) : Nat := if t / 65536 % 2 = 1 then 768 + t % 65536 else 512 + t % 256
def cm_me (I : Nat → Nat → Int32) (t : Nat) : Int32 := if t / 1048576 % 2 = 1 then nI 65555 else if t < 3328 then nI (196608 + t) else I 10 (cm_sl t)
theorem c_96 (hR : mj_Rt mp_R Rf) {t : Nat} (ht : t < 2 ^ 31) (hs : cm_sl t < 1804) (hQ : Q (.inl (some (.int (cm_me I t)))) (sh59, I, Lg, Rf, nc, ns)) : mj_call X mj_P (mj_bi X) (d + 2) 96 [.ref 9, .int (nI t)] (sh59, I, Lg, Rf, nc, ns) Q := by
  have r0 := hR.at (a := 9) (b := 0) (c := 10) (by decide)
  unfold cm_me at hQ
  refine mj_enter (z := (2, [], mb_96)) (by decide) rfl rfl ?_
  refine mj_blk rfl ?_
  simp +decide only [mjs_0, mjs_1, mjs_2, mjs_3, mjs_ble, true_and, Bool.false_eq_true, if_false, if_true, Nat.reduceAdd, Nat.reduceSub, Nat.reduceLeDiff]
  refine c_184 ht ?_
  by_cases h1 : t / 1048576 % 2 = 1
  · rw [if_pos h1] at hQ
    simp +decide only [mjs_0, mjs_1, mjs_2, mjs_3, mjs_ble, true_and, Bool.false_eq_true, if_false, if_true, Nat.reduceAdd, Nat.reduceSub, Nat.reduceLeDiff, h1]
    refine ⟨fun q => q.elim, fun _ => mj_blk rfl ?_⟩
    simp +decide only [mjs_0, mjs_1, mjs_2, mjs_3, mjs_ble, true_and, Bool.false_eq_true, if_false, if_true, Nat.reduceAdd, Nat.reduceSub, Nat.reduceLeDiff]
    refine c_92 ?_
    simp +decide only [mjs_0, mjs_1, mjs_2, mjs_3, mjs_ble, true_and, Bool.false_eq_true, if_false, if_true, Nat.reduceAdd, Nat.reduceSub, Nat.reduceLeDiff]
    exact hQ
  · rw [if_neg h1] at hQ
    simp +decide only [mjs_0, mjs_1, mjs_2, mjs_3, mjs_ble, true_and, Bool.false_eq_true, if_false, if_true, Nat.reduceAdd, Nat.reduceSub, Nat.reduceLeDiff, h1]
    refine ⟨fun _ => mj_blk rfl ?_, fun q => q.elim⟩
    simp +decide only [mjs_0, mjs_1, mjs_2, mjs_3, mjs_ble, true_and, Bool.false_eq_true, if_false, if_true, Nat.reduceAdd, Nat.reduceSub, Nat.reduceLeDiff]
    refine c_188 ht ?_
    by_cases h2 : t < 3328
    · rw [if_pos h2] at hQ
      simp +decide only [mjs_0, mjs_1, mjs_2, mjs_3, mjs_ble, true_and, Bool.false_eq_true, if_false, if_true, Nat.reduceAdd, Nat.reduceSub, Nat.reduceLeDiff, h2]
      refine ⟨fun q => q.elim, fun _ => mj_blk rfl ?_⟩
      simp +decide only [mjs_0, mjs_1, mjs_2, mjs_3, mjs_ble, true_and, Bool.false_eq_true, if_false, if_true, Nat.reduceAdd, Nat.reduceSub, Nat.reduceLeDiff]
      refine c_92 ?_
      have e : (3 : Int32) <<< (16 &&& 31) + nI t = nI (196608 + t) := nI_add 196608 t
      simp +decide only [mjs_0, mjs_1, mjs_2, mjs_3, mjs_ble, true_and, Bool.false_eq_true, if_false, if_true, Nat.reduceAdd, Nat.reduceSub, Nat.reduceLeDiff, e]
      refine mj_blk rfl ?_
      simp +decide only [mjs_0, mjs_1, mjs_2, mjs_3, mjs_ble, true_and, Bool.false_eq_true, if_false, if_true, Nat.reduceAdd, Nat.reduceSub, Nat.reduceLeDiff]
      exact hQ
    · rw [if_neg h2] at hQ
      have e0 : (nI (cm_sl t)).toNatClampNeg = cm_sl t := nI_clamp (by omega)
      simp +decide only [mjs_0, mjs_1, mjs_2, mjs_3, mjs_ble, true_and, Bool.false_eq_true, if_false, if_true, Nat.reduceAdd, Nat.reduceSub, Nat.reduceLeDiff, h2]
      refine ⟨fun _ => mj_blk rfl ?_, fun q => q.elim⟩
      simp +decide only [mjs_0, mjs_1, mjs_2, mjs_3, mjs_ble, true_and, Bool.false_eq_true, if_false, if_true, Nat.reduceAdd, Nat.reduceSub, Nat.reduceLeDiff, mjs_ob s59_9, r0]
      refine c_192 ht ?_
      rw [show (if t / 65536 % 2 = 1 then 768 + t % 65536 else 512 + t % 256) = cm_sl t from rfl]
      simp +decide only [mjs_0, mjs_1, mjs_2, mjs_3, mjs_ble, true_and, Bool.false_eq_true, if_false, if_true, Nat.reduceAdd, Nat.reduceSub, Nat.reduceLeDiff, mjs_ar (t := 0) s59_10, e0]
      refine ⟨nI_in hs (by decide), mj_blk rfl ?_⟩
      simp +decide only [mjs_0, mjs_1, mjs_2, mjs_3, mjs_ble, true_and, Bool.false_eq_true, if_false, if_true, Nat.reduceAdd, Nat.reduceSub, Nat.reduceLeDiff]
      exact hQ
end MJCLO
