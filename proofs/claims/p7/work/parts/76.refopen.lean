/-! THE REFERENCE: counters and categories set, groups opened -/
section MJRO
variable {X : mj_X} {d nc ns m lv : Nat} {Q : mj_Q} {sh : List (Nat × Nat)} {I : Nat → Nat → Int32} {Lg : Nat → Nat → Int64} {Rf : Nat → Nat → Option Nat}
theorem r_169 (hW : mr_W sh Rf m) {o k : Nat} (ho : o = 10 ∨ o = 11) (hk : k < 256) (hlv : I m 17 = nI lv) (hl : lv ≤ 100) (h39 : I m 39 = 0) {v : Int32} {g : Nat} (hg : g = 0 ∨ g = 1)
    (hQ : ∀ I' : Nat → Nat → Int32, mr_set I I' (m + o) 256 k (if g = 0 then lv else 0) (lv + 1) v → Q (.inl none) (sh, I', Lg, Rf, nc, ns)) : mj_call X mj_P (mj_bi X) (d + 1) 169 [.ref m, .ref (m + o), .int (nI k), .int v, .int (nI g)] (sh, I, Lg, Rf, nc, ns) Q := by
  obtain ⟨c1, hA⟩ := hW
  have so : sh[m + o]? = some (1000, 25856) := by
    rcases ho with rfl | rfl
    · exact (hA 20 10 1000 25856 (by decide)).2
    · exact (hA 21 11 1000 25856 (by decide)).2
  have hmo : m ≠ m + o := by omega
  have L15 : ∀ l0 : Nat, l0 ≤ lv → (∀ I' : Nat → Nat → Int32, mr_set I I' (m + o) 256 k l0 (lv + 1) v → Q (.inl none) (sh, I', Lg, Rf, nc, ns)) → ∀ (n l : Nat) (I' : Nat → Nat → Int32) (w : Option Value), l + n = lv + 1 → l0 ≤ l → mr_set I I' (m + o) 256 k l0 l v →
      mj_rn X (mj_hd []) (mj_call X mj_P (mj_bi X) d) mb_169 15 [some (.ref m), some (.ref (m + o)), some (.int (nI k)), some (.int v), w, some (.int (nI l))] [] (sh, I', Lg, Rf, nc, ns) Q := by
    intro l0 hl0 hk' n
    induction n with
    | zero =>
      intro l I' w hn hl0l hs
      have g17 : I' m 17 = nI lv := (hs.1 m 17 hmo).trans hlv
      obtain rfl : l = lv + 1 := by omega
      refine mj_blk rfl ?_
      simp +decide only [mjs_0, mjs_1, mjs_2, mjs_3, mjs_ble, true_and, Bool.false_eq_true, if_false, if_true, Nat.reduceAdd, Nat.reduceSub, Nat.reduceLeDiff, mjs_ob c1, g17]
      refine ⟨fun _ => mj_blk rfl ?_, fun q => absurd (nI_lt (by omega) (by omega)) q⟩
      simp +decide only [mjs_0, mjs_1, mjs_2, mjs_3, mjs_ble, true_and, Bool.false_eq_true, if_false, if_true, Nat.reduceAdd, Nat.reduceSub, Nat.reduceLeDiff]
      exact hk' I' hs
    | succ n ih =>
      intro l I' w hn hl0l hs
      have g17 : I' m 17 = nI lv := (hs.1 m 17 hmo).trans hlv
      have g39 : I' m 39 = 0 := (hs.1 m 39 hmo).trans h39
      have e : (256 : Int32) * nI l = nI (256 * l) := pk_mul 256 l
      have e2 : (nI (256 * l + k)).toNatClampNeg = 256 * l + k := nI_clamp (by omega)
      refine mj_blk rfl ?_
      simp +decide only [mjs_0, mjs_1, mjs_2, mjs_3, mjs_ble, true_and, Bool.false_eq_true, if_false, if_true, Nat.reduceAdd, Nat.reduceSub, Nat.reduceLeDiff, mjs_ob c1, g17]
      refine ⟨fun q => absurd q (nI_nlt (by omega) (by omega)), fun _ => mj_blk rfl ?_⟩
      simp +decide only [mjs_0, mjs_1, mjs_2, mjs_3, mjs_ble, true_and, Bool.false_eq_true, if_false, if_true, Nat.reduceAdd, Nat.reduceSub, Nat.reduceLeDiff, mjs_ob c1, g39]
      refine ⟨fun q => q.elim, fun _ => mj_blk rfl ?_⟩
      simp +decide only [mjs_0, mjs_1, mjs_2, mjs_3, mjs_ble, true_and, Bool.false_eq_true, if_false, if_true, Nat.reduceAdd, Nat.reduceSub, Nat.reduceLeDiff, e, nI_add, mjs_ar (t := 0) so, e2, nI_1]
      exact ⟨nI_in (by omega) (by decide), ih (l + 1) _ _ (by omega) (by omega) (mr_set_st (by decide) hs hl0l)⟩
  refine mj_enter (z := (6, [], mb_169)) (by decide) rfl rfl ?_
  refine mj_blk rfl ?_
  rcases hg with rfl | rfl
  · rw [if_pos rfl] at hQ
    simp +decide only [mjs_0, mjs_1, mjs_2, mjs_3, mjs_ble, true_and, Bool.false_eq_true, if_false, if_true, Nat.reduceAdd, Nat.reduceSub, Nat.reduceLeDiff]
    refine ⟨fun _ => mj_blk rfl ?_, fun q => q.elim⟩
    simp +decide only [mjs_0, mjs_1, mjs_2, mjs_3, mjs_ble, true_and, Bool.false_eq_true, if_false, if_true, Nat.reduceAdd, Nat.reduceSub, Nat.reduceLeDiff, mjs_ob c1, hlv]
    refine mj_blk rfl ?_
    simp +decide only [mjs_0, mjs_1, mjs_2, mjs_3, mjs_ble, true_and, Bool.false_eq_true, if_false, if_true, Nat.reduceAdd, Nat.reduceSub, Nat.reduceLeDiff]
    exact L15 lv (Nat.le_refl _) hQ 1 lv I _ rfl (Nat.le_refl _) mr_set_rf
  · rw [if_neg (by decide)] at hQ
    simp +decide only [mjs_0, mjs_1, mjs_2, mjs_3, mjs_ble, true_and, Bool.false_eq_true, if_false, if_true, Nat.reduceAdd, Nat.reduceSub, Nat.reduceLeDiff]
    refine ⟨fun q => q.elim, fun _ => mj_blk rfl ?_⟩
    simp +decide only [mjs_0, mjs_1, mjs_2, mjs_3, mjs_ble, true_and, Bool.false_eq_true, if_false, if_true, Nat.reduceAdd, Nat.reduceSub, Nat.reduceLeDiff]
    refine mj_blk rfl ?_
    simp +decide only [mjs_0, mjs_1, mjs_2, mjs_3, mjs_ble, true_and, Bool.false_eq_true, if_false, if_true, Nat.reduceAdd, Nat.reduceSub, Nat.reduceLeDiff]
    exact L15 0 (Nat.zero_le _) hQ (lv + 1) 0 I _ (by omega) (Nat.le_refl _) mr_set_rf
/-- a level's row copied to the next one, up to k -/
def mr_cp (I I' : Nat → Nat → Int32) (a w lv k : Nat) : Prop := (∀ q, q < k → I' a (w * (lv + 1) + q) = I a (w * lv + q)) ∧ ∀ q, (q < w * (lv + 1) ∨ w * (lv + 1) + k ≤ q) → I' a q = I a q
theorem mr_cp_st {I' : Nat → Nat → Int32} {a w k : Nat} (h : mr_cp I I' a w lv k) (hk : k < w) : mr_cp I (mj_up I' a (w * (lv + 1) + k) (I' a (w * lv + k))) a w lv (k + 1) := by
  obtain ⟨h1, h2⟩ := h
  have e : w * (lv + 1) = w * lv + w := Nat.mul_succ w lv
  refine ⟨fun q hq => ?_, fun q hq => ?_⟩
  · by_cases hqk : q = k
    · rw [hqk, mjs_up_at]
      exact h2 _ (Or.inl (by omega))
    · rw [mjs_up_ne (Or.inr (by omega))]
      exact h1 q (by omega)
  · rw [mjs_up_ne (Or.inr (by omega))]
    exact h2 q (by omega)
theorem mr_cp_up {I' : Nat → Nat → Int32} {a w k b j : Nat} {v : Int32} (h : mr_cp I I' a w lv k) (hb : a ≠ b) : mr_cp I (mj_up I' b j v) a w lv k := ⟨fun q hq => by rw [mjs_up_c hb]; exact h.1 q hq, fun q hq => by rw [mjs_up_c hb]; exact h.2 q hq⟩
def mr_op (I I' : Nat → Nat → Int32) (m lv : Nat) (b : Int32) : Prop := (∀ c q, c ≠ m → c ≠ m + 8 → c ≠ m + 9 → c ≠ m + 10 → c ≠ m + 11 → I' c q = I c q) ∧ mr_cp I I' (m + 9) 1400 lv 1400 ∧ mr_cp I I' (m + 10) 256 lv 256 ∧ mr_cp I I' (m + 11) 256 lv 256 ∧ (∀ q, q ≠ 17 → I' m q = I m q) ∧ I' m 17 = nI (lv + 1) ∧ I' (m + 8) (lv + 1) = b ∧ ∀ q, q ≠ lv + 1 → I' (m + 8) q = I (m + 8) q
theorem r_164 (hW : mr_W sh Rf m) (hlv : I m 17 = nI lv) (hl : lv ≤ 100) (h39 : I m 39 = 0) {b : Int32} (hb : vp_nar .boolean b = b)
    (hQ1 : lv < 100 → ∀ I' : Nat → Nat → Int32, mr_op I I' m lv b → Q (.inl none) (sh, I', Lg, Rf, nc, ns)) (hQ2 : lv = 100 → Q (.inl none) (sh, mj_up I m 39 2, Lg, Rf, nc, ns)) : mj_call X mj_P (mj_bi X) (d + 2) 164 [.ref m, .int b] (sh, I, Lg, Rf, nc, ns) Q := by
  obtain ⟨c1, hA⟩ := hW
  obtain ⟨r18, s18⟩ := hA 18 8 1003 102 (by decide)
  obtain ⟨r19, s19⟩ := hA 19 9 1000 141400 (by decide)
  obtain ⟨r20, s20⟩ := hA 20 10 1000 25856 (by decide)
  obtain ⟨r21, s21⟩ := hA 21 11 1000 25856 (by decide)
  refine mj_enter (z := (3, [], mb_164)) (by decide) rfl rfl ?_
  refine mj_blk rfl ?_
  simp +decide only [mjs_0, mjs_1, mjs_2, mjs_3, mjs_ble, true_and, Bool.false_eq_true, if_false, if_true, Nat.reduceAdd, Nat.reduceSub, Nat.reduceLeDiff, mjs_ob c1, hlv]
  refine ⟨fun q => mj_blk rfl ?_, fun q => mj_blk rfl ?_⟩
  · have hlt : lv < 100 := by
      rcases Nat.lt_or_eq_of_le hl with h | h
      · exact h
      · exact absurd (by rw [h]; rfl) q
    have L64 : ∀ I1 : Nat → Nat → Int32, (∀ c q, c ≠ m + 9 → I1 c q = I c q) → mr_cp I I1 (m + 9) 1400 lv 1400 → ∀ (n k : Nat) (I' : Nat → Nat → Int32), k + n = 256 → (∀ c q, c ≠ m + 10 → c ≠ m + 11 → I' c q = I1 c q) → mr_cp I1 I' (m + 10) 256 lv k → mr_cp I1 I' (m + 11) 256 lv k →
        mj_rn X (mj_hd []) (mj_call X mj_P (mj_bi X) (d + 1)) mb_164 64 [some (.ref m), some (.int b), some (.int (nI k))] [] (sh, I', Lg, Rf, nc, ns) Q := by
      intro I1 hI1 hcp n
      induction n with
      | zero =>
        intro k I' hn h1 h2 h3
        obtain rfl : k = 256 := by omega
        have g17 : I' m 17 = nI lv := (h1 m 17 (by omega) (by omega)).trans ((hI1 m 17 (by omega)).trans hlv)
        have e1 : (nI (lv + 1)).toNatClampNeg = lv + 1 := nI_clamp (by omega)
        refine mj_blk rfl ?_
        simp +decide only [mjs_0, mjs_1, mjs_2, mjs_3, mjs_ble, true_and, Bool.false_eq_true, if_false, if_true, Nat.reduceAdd, Nat.reduceSub, Nat.reduceLeDiff]
        refine ⟨fun _ => mj_blk rfl ?_, fun q => q.elim⟩
        simp +decide only [mjs_0, mjs_1, mjs_2, mjs_3, mjs_ble, true_and, Bool.false_eq_true, if_false, if_true, Nat.reduceAdd, Nat.reduceSub, Nat.reduceLeDiff, mjs_ob c1, g17, nI_1, r18, mjs_up_at, mjs_ar (t := 3) s18, e1, hb]
        refine ⟨nI_in (by omega) (by decide), hQ1 hlt _ ⟨fun c q a1 a2 a3 a4 a5 => ?_, ?_, ?_, ?_, fun q hq => ?_, ?_, mjs_up_at, fun q hq => ?_⟩⟩
        · rw [mjs_up_c a2, mjs_up_c a1, h1 c q a4 a5, hI1 c q a3]
        · refine mr_cp_up (mr_cp_up ?_ (by omega)) (by omega)
          exact ⟨fun q hq => by rw [h1 _ _ (by omega) (by omega)]; exact hcp.1 q hq, fun q hq => by rw [h1 _ _ (by omega) (by omega)]; exact hcp.2 q hq⟩
        · refine mr_cp_up (mr_cp_up ?_ (by omega)) (by omega)
          exact ⟨fun q hq => by rw [h2.1 q hq, hI1 _ _ (by omega)], fun q hq => by rw [h2.2 q hq, hI1 _ _ (by omega)]⟩
        · refine mr_cp_up (mr_cp_up ?_ (by omega)) (by omega)
          exact ⟨fun q hq => by rw [h3.1 q hq, hI1 _ _ (by omega)], fun q hq => by rw [h3.2 q hq, hI1 _ _ (by omega)]⟩
        · rw [mjs_up_c (by omega), mjs_up_ne (Or.inr hq), h1 m q (by omega) (by omega), hI1 m q (by omega)]
        · rw [mjs_up_c (by omega), mjs_up_at]
        · rw [mjs_up_ne (Or.inr hq), mjs_up_c (by omega), h1 _ _ (by omega) (by omega), hI1 _ _ (by omega)]
      | succ n ih =>
        intro k I' hn h1 h2 h3
        have g17 : I' m 17 = nI lv := (h1 m 17 (by omega) (by omega)).trans ((hI1 m 17 (by omega)).trans hlv)
        have u1 : ∀ (J : Nat → Nat → Int32) (j : Nat) (w : Int32) (q : Nat), mj_up J (m + 10) j w m q = J m q := fun J j w q => mjs_up_c (by omega)
        have u2 : ∀ (J : Nat → Nat → Int32) (j : Nat) (w : Int32) (q : Nat), mj_up J (m + 10) j w (m + 11) q = J (m + 11) q := fun J j w q => mjs_up_c (by omega)
        have e : ∀ l : Nat, (256 : Int32) * nI l = nI (256 * l) := fun l => pk_mul 256 l
        have e1 : (nI (256 * (lv + 1) + k)).toNatClampNeg = 256 * (lv + 1) + k := nI_clamp (by omega)
        have e2 : (nI (256 * lv + k)).toNatClampNeg = 256 * lv + k := nI_clamp (by omega)
        refine mj_blk rfl ?_
        simp +decide only [mjs_0, mjs_1, mjs_2, mjs_3, mjs_ble, true_and, Bool.false_eq_true, if_false, if_true, Nat.reduceAdd, Nat.reduceSub, Nat.reduceLeDiff]
        refine ⟨fun q => absurd q (nI_ge (a := k) (b := 256) (by omega) (by decide)), fun _ => mj_blk rfl ?_⟩
        simp +decide only [mjs_0, mjs_1, mjs_2, mjs_3, mjs_ble, true_and, Bool.false_eq_true, if_false, if_true, Nat.reduceAdd, Nat.reduceSub, Nat.reduceLeDiff, mjs_ob c1, r20, r21, g17, nI_1, e, nI_add, mjs_ar (t := 0) s20, mjs_ar (t := 0) s21, e1, e2, u1, u2]
        refine ⟨nI_in (by omega) (by decide), nI_in (by omega) (by decide), nI_in (by omega) (by decide), nI_in (by omega) (by decide), ih (k + 1) _ (by omega) (fun c q a1 a2 => ?_) (mr_cp_up (mr_cp_st h2 (by omega)) (by omega)) ?_⟩
        · rw [mjs_up_c a2, mjs_up_c a1]
          exact h1 c q a1 a2
        · have h3' := mr_cp_st (mr_cp_up (b := m + 10) (j := 256 * (lv + 1) + k) (v := I' (m + 10) (256 * lv + k)) h3 (by omega)) (show k < 256 by omega)
          rw [u2] at h3'
          exact h3'
    have L17 : ∀ (n k : Nat) (I' : Nat → Nat → Int32), k + n = 1400 → (∀ c q, c ≠ m + 9 → I' c q = I c q) → mr_cp I I' (m + 9) 1400 lv k →
        mj_rn X (mj_hd []) (mj_call X mj_P (mj_bi X) (d + 1)) mb_164 17 [some (.ref m), some (.int b), some (.int (nI k))] [] (sh, I', Lg, Rf, nc, ns) Q := by
      intro n
      induction n with
      | zero =>
        intro k I' hn h1 h2
        obtain rfl : k = 1400 := by omega
        refine mj_blk rfl ?_
        simp +decide only [mjs_0, mjs_1, mjs_2, mjs_3, mjs_ble, true_and, Bool.false_eq_true, if_false, if_true, Nat.reduceAdd, Nat.reduceSub, Nat.reduceLeDiff]
        refine ⟨fun _ => mj_blk rfl ?_, fun q => q.elim⟩
        simp +decide only [mjs_0, mjs_1, mjs_2, mjs_3, mjs_ble, true_and, Bool.false_eq_true, if_false, if_true, Nat.reduceAdd, Nat.reduceSub, Nat.reduceLeDiff]
        exact L64 I' h1 h2 256 0 I' rfl (fun _ _ _ _ => rfl) ⟨fun q hq => absurd hq (Nat.not_lt_zero q), fun _ _ => rfl⟩ ⟨fun q hq => absurd hq (Nat.not_lt_zero q), fun _ _ => rfl⟩
      | succ n ih =>
        intro k I' hn h1 h2
        have g17 : I' m 17 = nI lv := (h1 m 17 (by omega)).trans hlv
        have e : ∀ l : Nat, (1400 : Int32) * nI l = nI (1400 * l) := fun l => pk_mul 1400 l
        have e1 : (nI (1400 * (lv + 1) + k)).toNatClampNeg = 1400 * (lv + 1) + k := nI_clamp (by omega)
        have e2 : (nI (1400 * lv + k)).toNatClampNeg = 1400 * lv + k := nI_clamp (by omega)
        refine mj_blk rfl ?_
        simp +decide only [mjs_0, mjs_1, mjs_2, mjs_3, mjs_ble, true_and, Bool.false_eq_true, if_false, if_true, Nat.reduceAdd, Nat.reduceSub, Nat.reduceLeDiff]
        refine ⟨fun q => absurd q (nI_ge (a := k) (b := 1400) (by omega) (by decide)), fun _ => mj_blk rfl ?_⟩
        simp +decide only [mjs_0, mjs_1, mjs_2, mjs_3, mjs_ble, true_and, Bool.false_eq_true, if_false, if_true, Nat.reduceAdd, Nat.reduceSub, Nat.reduceLeDiff, mjs_ob c1, r19, g17, nI_1, e, nI_add, mjs_ar (t := 0) s19, e1, e2]
        refine ⟨nI_in (by omega) (by decide), nI_in (by omega) (by decide), ih (k + 1) _ (by omega) (fun c q a1 => ?_) (mr_cp_st h2 (by omega))⟩
        rw [mjs_up_c a1]
        exact h1 c q a1
    simp +decide only [mjs_0, mjs_1, mjs_2, mjs_3, mjs_ble, true_and, Bool.false_eq_true, if_false, if_true, Nat.reduceAdd, Nat.reduceSub, Nat.reduceLeDiff]
    exact L17 1400 0 I rfl (fun _ _ _ => rfl) ⟨fun q hq => absurd hq (Nat.not_lt_zero q), fun _ _ => rfl⟩
  · have hk' : lv = 100 := (nI_eq (by omega) (by decide)).mp (show nI lv = nI 100 from Decidable.not_not.mp q)
    simp +decide only [mjs_0, mjs_1, mjs_2, mjs_3, mjs_ble, true_and, Bool.false_eq_true, if_false, if_true, Nat.reduceAdd, Nat.reduceSub, Nat.reduceLeDiff, mjs_rc c1]
    refine c_106 c1 ?_
    rw [if_pos h39]
    simp +decide only [mjs_0, mjs_1, mjs_2, mjs_3, mjs_ble, true_and, Bool.false_eq_true, if_false, if_true, Nat.reduceAdd, Nat.reduceSub, Nat.reduceLeDiff]
    exact hQ2 hk'
end MJRO
