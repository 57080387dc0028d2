/-! A RUN'S BEGINNING: the reference -/
/-- the primitives in the reference's order -/
def ri (i : Nat) : Nat := if i = 35 then 23 else if 23 ≤ i ∧ i < 35 then i + 1 else i
theorem ri_rp {i : Nat} (h : i < 36) : ri (rp i) = i := by
  unfold ri rp
  repeat' split
  all_goals omega
theorem rid_lt {i : Nat} (h : i < 36) : ri i < 36 := by
  unfold ri
  repeat' split
  all_goals omega
def rmc (i : Nat) : Nat → Nat := pmc (ri i)
def rml (i : Nat) : Nat := pml (ri i)
/-- where a word begins in a row of words with a space behind each -/
def wof (f : Nat → Nat) : Nat → Nat
  | 0 => 0
  | k + 1 => wof f k + (f k + 1)
def wck (T : List Int32) (f : Nat → Nat) (g : Nat → Nat → Nat) : Bool := (List.range 36).all fun k => decide (T.getD (wof f k + f k) 0 = 32) && (List.range (f k)).all fun j => decide (T.getD (wof f k + j) 0 = nI (g k j)) && decide (nI (g k j) ≠ 32)
theorem wck_at {T : List Int32} {f : Nat → Nat} {g : Nat → Nat → Nat} (h : wck T f g = true) {k : Nat} (hk : k < 36) : T.getD (wof f k + f k) 0 = 32 ∧ ∀ j, j < f k → T.getD (wof f k + j) 0 = nI (g k j) ∧ nI (g k j) ≠ 32 := by
  have h1 := List.all_eq_true.mp h k (List.mem_range.mpr hk)
  rw [Bool.and_eq_true] at h1
  refine ⟨of_decide_eq_true h1.1, fun j hj => ?_⟩
  have h2 := List.all_eq_true.mp h1.2 j (List.mem_range.mpr hj)
  rw [Bool.and_eq_true] at h2
  exact ⟨of_decide_eq_true h2.1, of_decide_eq_true h2.2⟩
theorem w3 : wck mj_t3 rml rmc = true := by decide +kernel
theorem w3e : wof rml 36 = 237 := by decide +kernel
theorem w2 : wck mj_t2 pml pmc = true := by decide +kernel
theorem w2e : wof pml 36 = 237 := by decide +kernel
theorem wof_le {f : Nat → Nat} : ∀ {m k : Nat}, wof f k ≤ wof f (k + m)
  | 0, _ => Nat.le_refl _
  | m + 1, k => Nat.le_trans (wof_le (m := m)) (show wof f (k + m) ≤ wof f (k + m) + (f (k + m) + 1) from Nat.le_add_right _ _)
theorem ud_same {α : Type} {f : Nat → α} {k : Nat} : ud f k (f k) = f := by
  funext y
  unfold ud
  split
  · next h => rw [h]
  · rfl
section MJCL
variable {L d nc ns : Nat} {xs : Nat → Int32} {Q : mj_Q} {I : Nat → Nat → Int32} {Lg : Nat → Nat → Int64} {Rf : Nat → Nat → Option Nat}
/-- primitives -/
theorem f108x (hM' : mj_Rt mm_R Rf) (hQ : ∀ I' : Nat → Nat → Int32, mm_P I I' → rd_C I' 36 rmc rml 36 → (∀ q, q < 36 → I' 45 q = nI (1000 + q)) → (∀ q, 36 ≤ q → I' 45 q = I 45 q) → Q (.inl none) (sh59, I', Lg, Rf, nc, ns)) :
    ∀ (m k len : Nat) (I' : Nat → Nat → Int32) (w : Option Value), wof rml k + len + m = 237 → k ≤ 36 → (k < 36 → len ≤ rml k) → (k = 36 → len = 0) → rd_C I' 36 rmc rml k → I' 36 15 = nI len → (∀ j, j < len → I' 42 j = nI (rmc k j)) → (∀ q, q < k → I' 45 q = nI (1000 + q)) → (∀ q, k ≤ q → I' 45 q = I 45 q) → mm_P I I' →
      mj_rn (mj_X0 L xs) (mj_hd []) (mj_call (mj_X0 L xs) mj_P (mj_bi (mj_X0 L xs)) (d + 1)) mb_108 7 [some (.ref 36), some (.ref 900003), some (.int (nI (wof rml k + len))), w] [] (sh59, I', Lg, Rf, nc, ns) Q := by
  have hm := mm_rf hM'
  intro m
  induction m with
  | zero =>
    intro k len I' w hi hk hl hl36 hC h15 hrow hme hme2 hP
    have ek : k = 36 := by
      by_cases e : k = 36
      · exact e
      · exfalso
        have h1 : wof rml (k + 1) ≤ wof rml (k + 1 + (35 - k)) := wof_le
        rw [show k + 1 + (35 - k) = 36 by omega, w3e] at h1
        have h2 : wof rml (k + 1) = wof rml k + (rml k + 1) := rfl
        have := hl (by omega)
        omega
    subst ek
    obtain rfl : len = 0 := hl36 rfl
    rw [w3e]
    refine mj_blk rfl ?_
    simp +decide only [mjs_0, mjs_1, mjs_2, mjs_3, mjs_ble, true_and, Bool.false_eq_true, if_false, if_true, Nat.reduceAdd, Nat.reduceSub, Nat.reduceLeDiff, false_implies, true_implies, not_false_eq_true, not_true_eq_false, and_true]
    refine c_904 (tx := mj_t3) (by decide) rfl ?_
    simp +decide only [mjs_0, mjs_1, mjs_2, mjs_3, mjs_ble, true_and, Bool.false_eq_true, if_false, if_true, Nat.reduceAdd, Nat.reduceSub, Nat.reduceLeDiff, false_implies, true_implies, not_false_eq_true, not_true_eq_false, and_true, mj_t3l]
    refine mj_blk rfl ?_
    simp +decide only [mjs_0, mjs_1, mjs_2, mjs_3, mjs_ble, true_and, Bool.false_eq_true, if_false, if_true, Nat.reduceAdd, Nat.reduceSub, Nat.reduceLeDiff, false_implies, true_implies, not_false_eq_true, not_true_eq_false, and_true]
    exact hQ I' hP hC hme hme2
  | succ m ih =>
    intro k len I' w hi hk hl hl36 hC h15 hrow hme hme2 hP
    have ek : k < 36 := by
      by_cases e : k = 36
      · exfalso
        subst e
        rw [w3e, hl36 rfl] at hi
        omega
      · omega
    have hlen := hl ek
    have h40 := (pm_len (rid_lt ek)).1
    have h256 := (pm_len (rid_lt ek)).2
    have h40' : rml k ≤ 40 := h40
    have e0 : (nI (wof rml k + len)).toNatClampNeg = wof rml k + len := nI_clamp (by omega)
    have K73 : ∀ (k' len' : Nat) (I2 : Nat → Nat → Int32) (w : Option Value), wof rml k' + len' = wof rml k + len + 1 → k' ≤ 36 → (k' < 36 → len' ≤ rml k') → (k' = 36 → len' = 0) → rd_C I2 36 rmc rml k' → I2 36 15 = nI len' → (∀ j, j < len' → I2 42 j = nI (rmc k' j)) → (∀ q, q < k' → I2 45 q = nI (1000 + q)) → (∀ q, k' ≤ q → I2 45 q = I 45 q) → mm_P I I2 → mj_rn (mj_X0 L xs) (mj_hd []) (mj_call (mj_X0 L xs) mj_P (mj_bi (mj_X0 L xs)) (d + 1)) mb_108 73 [some (.ref 36), some (.ref 900003), some (.int (nI (wof rml k + len))), w] [] (sh59, I2, Lg, Rf, nc, ns) Q := by
      intro k' len' I2 w e1 a1 a2 a3 a4 a5 a6 a7 a8 a9
      refine mj_blk rfl ?_
      simp +decide only [mjs_0, mjs_1, mjs_2, mjs_3, mjs_ble, true_and, Bool.false_eq_true, if_false, if_true, Nat.reduceAdd, Nat.reduceSub, Nat.reduceLeDiff, false_implies, true_implies, not_false_eq_true, not_true_eq_false, and_true, nI_1]
      rw [← e1]
      exact mj_nv (ih k' len' I2 w (by omega) a1 a2 a3 a4 a5 a6 a7 a8 a9)
    refine mj_blk rfl ?_
    simp +decide only [mjs_0, mjs_1, mjs_2, mjs_3, mjs_ble, true_and, Bool.false_eq_true, if_false, if_true, Nat.reduceAdd, Nat.reduceSub, Nat.reduceLeDiff, false_implies, true_implies, not_false_eq_true, not_true_eq_false, and_true]
    refine c_904 (tx := mj_t3) (by decide) rfl ?_
    simp +decide only [mjs_0, mjs_1, mjs_2, mjs_3, mjs_ble, true_and, Bool.false_eq_true, if_false, if_true, Nat.reduceAdd, Nat.reduceSub, Nat.reduceLeDiff, false_implies, true_implies, not_false_eq_true, not_true_eq_false, and_true, mj_t3l]
    refine ⟨fun q => absurd q (nI_ge (by omega) (by decide)), fun _ => mj_blk rfl ?_⟩
    simp +decide only [mjs_0, mjs_1, mjs_2, mjs_3, mjs_ble, true_and, Bool.false_eq_true, if_false, if_true, Nat.reduceAdd, Nat.reduceSub, Nat.reduceLeDiff, false_implies, true_implies, not_false_eq_true, not_true_eq_false, and_true]
    refine c_905 (tx := mj_t3) (by decide) rfl (nI_in (by rw [mj_t3l]; omega) (by rw [mj_t3l]; decide)) ?_
    by_cases e : len = rml k
    · have ht : mj_t3.getD (wof rml k + len) 0 = 32 := by rw [e]; exact (wck_at w3 ek).1
      simp +decide only [mjs_0, mjs_1, mjs_2, mjs_3, mjs_ble, true_and, Bool.false_eq_true, if_false, if_true, Nat.reduceAdd, Nat.reduceSub, Nat.reduceLeDiff, false_implies, true_implies, not_false_eq_true, not_true_eq_false, and_true, e0, ht]
      refine mj_blk rfl ?_
      simp +decide only [mjs_0, mjs_1, mjs_2, mjs_3, mjs_ble, true_and, Bool.false_eq_true, if_false, if_true, Nat.reduceAdd, Nat.reduceSub, Nat.reduceLeDiff, false_implies, true_implies, not_false_eq_true, not_true_eq_false, and_true, mm_sh, hm, mjs_up_at, mjs_up_c, mjs_up_f]
      refine r_109 (w := rmc k) (len := len) (mm_W hM') hC ⟨h15, by omega, fun j hj => ⟨hrow j hj, h256 j (by rw [e] at hj; exact hj)⟩⟩ (by omega) (fun I2 b1 b2 b3 => ?_)
      rw [e, ud_same (f := rml), ud_same (f := rmc)] at b1
      have e1 : (1000 : Int32) + nI k = nI (1000 + k) := nI_add 1000 k
      have ekc : (nI k).toNatClampNeg = k := nI_clamp (by omega)
      simp +decide only [mjs_0, mjs_1, mjs_2, mjs_3, mjs_ble, true_and, Bool.false_eq_true, if_false, if_true, Nat.reduceAdd, Nat.reduceSub, Nat.reduceLeDiff, false_implies, true_implies, not_false_eq_true, not_true_eq_false, and_true, mm_sh, hm, mjs_up_at, mjs_up_c, mjs_up_f, e1, ekc]
      refine ⟨nI_in (by omega) (by decide), ?_⟩
      have e45 : ∀ q, I2 45 q = I' 45 q := fun q => b2 45 q (by decide) (by decide) (by decide)
      refine mj_nv (K73 (k + 1) 0 _ w ?_ (by omega) (fun _ => Nat.zero_le _) (fun _ => rfl) b1 rfl (fun j hj => absurd hj (Nat.not_lt_zero _)) (fun q hq => ?_) (fun q hq => ?_) ⟨fun b q h1 h2 h3 h4 h5 => ?_, fun q h1 h2 => ?_⟩)
      · show wof rml k + (rml k + 1) + 0 = _
        omega
      · show mj_up (mj_up I2 45 k (nI (1000 + k))) 36 15 0 45 q = _
        rw [mjs_up_c (by decide)]
        by_cases eq : q = k
        · rw [eq, mjs_up_at]
        · rw [mjs_up_ne (Or.inr eq), e45]
          exact hme q (by omega)
      · show mj_up (mj_up I2 45 k (nI (1000 + k))) 36 15 0 45 q = _
        rw [mjs_up_c (by decide), mjs_up_ne (Or.inr (by omega)), e45]
        exact hme2 q (by omega)
      · rw [mjs_up_c h1, mjs_up_c h5, b2 b q h1 h2 h3]
        exact hP.1 b q h1 h2 h3 h4 h5
      · rw [mjs_up_ne (Or.inr h2), mjs_up_c (by decide), b3 q h1]
        exact hP.2 q h1 h2
    · have ht := (wck_at w3 ek).2 len (by omega)
      simp +decide only [mjs_0, mjs_1, mjs_2, mjs_3, mjs_ble, true_and, Bool.false_eq_true, if_false, if_true, Nat.reduceAdd, Nat.reduceSub, Nat.reduceLeDiff, false_implies, true_implies, not_false_eq_true, not_true_eq_false, and_true, e0, ht.1]
      refine ⟨fun _ => mj_blk rfl ?_, fun q => absurd ht.2 q⟩
      simp +decide only [mjs_0, mjs_1, mjs_2, mjs_3, mjs_ble, true_and, Bool.false_eq_true, if_false, if_true, Nat.reduceAdd, Nat.reduceSub, Nat.reduceLeDiff, false_implies, true_implies, not_false_eq_true, not_true_eq_false, and_true, mm_sh, hm, mjs_up_at, mjs_up_c, mjs_up_f, h15]
      refine c_905 (tx := mj_t3) (by decide) rfl (nI_in (by rw [mj_t3l]; omega) (by rw [mj_t3l]; decide)) ?_
      simp +decide only [mjs_0, mjs_1, mjs_2, mjs_3, mjs_ble, true_and, Bool.false_eq_true, if_false, if_true, Nat.reduceAdd, Nat.reduceSub, Nat.reduceLeDiff, false_implies, true_implies, not_false_eq_true, not_true_eq_false, and_true, mm_sh, hm, mjs_up_at, mjs_up_c, mjs_up_f, e0, ht.1, h15, nI_1]
      refine ⟨nI_in (by omega) (by decide), ?_⟩
      have el : (nI len).toNatClampNeg = len := nI_clamp (by omega)
      try rw [el]
      refine mj_nv (K73 k (len + 1) _ w rfl (by omega) (fun _ => by omega) (fun h => absurd h (by omega)) ?_ rfl (fun j hj => ?_) (fun q hq => hme q hq) (fun q hq => hme2 q hq) ⟨fun b q h1 h2 h3 h4 h5 => ?_, fun q h1 h2 => ?_⟩)
      · exact ⟨hC.1, hC.2.1, hC.2.2⟩
      · show mj_up (mj_up I' 42 len (nI (rmc k len))) 36 15 _ 42 j = _
        rw [mjs_up_c (by decide)]
        by_cases ej : j = len
        · rw [ej, mjs_up_at]
        · rw [mjs_up_ne (Or.inr ej)]
          exact hrow j (by omega)
      · rw [mjs_up_c h1, mjs_up_c h4]
        exact hP.1 b q h1 h2 h3 h4 h5
      · rw [mjs_up_ne (Or.inr h2), mjs_up_c (by decide)]
        exact hP.2 q h1 h2
theorem c_108x (hM' : mj_Rt mm_R Rf) (h11 : I 36 11 = 0) (hQ : ∀ I' : Nat → Nat → Int32, mm_P I I' → rd_C I' 36 rmc rml 36 → (∀ q, q < 36 → I' 45 q = nI (1000 + q)) → (∀ q, 36 ≤ q → I' 45 q = I 45 q) → Q (.inl none) (sh59, I', Lg, Rf, nc, ns)) :
    mj_call (mj_X0 L xs) mj_P (mj_bi (mj_X0 L xs)) (d + 2) 108 [.ref 36, .ref 900003] (sh59, I, Lg, Rf, nc, ns) Q := by
  have hm := mm_rf hM'
  refine mj_enter (z := (4, [], mb_108)) (by decide) rfl rfl ?_
  refine mj_blk rfl ?_
  simp +decide only [mjs_0, mjs_1, mjs_2, mjs_3, mjs_ble, true_and, Bool.false_eq_true, if_false, if_true, Nat.reduceAdd, Nat.reduceSub, Nat.reduceLeDiff, false_implies, true_implies, not_false_eq_true, not_true_eq_false, and_true, mm_sh, hm, mjs_up_at, mjs_up_c, mjs_up_f]
  refine mj_nv (f108x hM' hQ 237 0 0 _ none rfl (by decide) (fun _ => Nat.zero_le _) (fun _ => rfl) ⟨h11, by decide, fun id hid => absurd hid (Nat.not_lt_zero _)⟩ rfl (fun j hj => absurd hj (Nat.not_lt_zero _)) (fun q hq => absurd hq (Nat.not_lt_zero _)) (fun q hq => rfl) ⟨fun b q h1 h2 h3 h4 h5 => mjs_up_c h1, fun q h1 h2 => mjs_up_ne (Or.inr h2)⟩)
theorem f107_Ax (hM' : mj_Rt mm_R Rf) (hk : ∀ (I' : Nat → Nat → Int32), (∀ b q, b ≠ 45 → I' b q = I b q) → (∀ q, q < 1400 → I' 45 q = 0) → mj_rn (mj_X0 L xs) (mj_hd []) (mj_call (mj_X0 L xs) mj_P (mj_bi (mj_X0 L xs)) d) mb_107 102 [some (.ref 36), some (.int (nI 1400)), none] [] (sh59, I', Lg, Rf, nc, ns) Q) :
    ∀ (m j : Nat) (I' : Nat → Nat → Int32), j + m = 1400 → (∀ b q, b ≠ 45 → I' b q = I b q) → (∀ q, q < j → I' 45 q = 0) → mj_rn (mj_X0 L xs) (mj_hd []) (mj_call (mj_X0 L xs) mj_P (mj_bi (mj_X0 L xs)) d) mb_107 82 [some (.ref 36), some (.int (nI j)), none] [] (sh59, I', Lg, Rf, nc, ns) Q := by
  have hm := mm_rf hM'
  intro m
  induction m with
  | zero =>
    intro j I' hj h2 h3
    obtain rfl : j = 1400 := by omega
    refine mj_blk rfl ?_
    simp +decide only [mjs_0, mjs_1, mjs_2, mjs_3, mjs_ble, true_and, Bool.false_eq_true, if_false, if_true, Nat.reduceAdd, Nat.reduceSub, Nat.reduceLeDiff]
    exact ⟨fun _ => hk I' h2 h3, fun q => q.elim⟩
  | succ m ih =>
    intro j I' hj h2 h3
    have e0 : (nI j).toNatClampNeg = j := nI_clamp (by omega)
    refine mj_blk rfl ?_
    simp +decide only [mjs_0, mjs_1, mjs_2, mjs_3, mjs_ble, true_and, Bool.false_eq_true, if_false, if_true, Nat.reduceAdd, Nat.reduceSub, Nat.reduceLeDiff]
    refine ⟨fun q => absurd q (nI_ge (a := j) (b := 1400) (by omega) (by decide)), fun _ => mj_blk rfl ?_⟩
    simp +decide only [mjs_0, mjs_1, mjs_2, mjs_3, mjs_ble, true_and, Bool.false_eq_true, if_false, if_true, Nat.reduceAdd, Nat.reduceSub, Nat.reduceLeDiff, mm_sh, hm, nI_1, e0]
    refine ⟨nI_in (by omega) (by decide), ih (j + 1) _ (by omega) (fun b q hb => ?_) (fun q hq => ?_)⟩
    · rw [mjs_up_c hb]
      exact h2 b q hb
    · by_cases e : q = j
      · rw [e, mjs_up_at]
      · rw [mjs_up_ne (Or.inr e)]
        exact h3 q (by omega)
def clb (c : Nat) : Nat := if (97 ≤ c ∧ c ≤ 122) ∨ (65 ≤ c ∧ c ≤ 90) then 11 else 12
theorem f107_Bx (hM' : mj_Rt mm_R Rf) (hk : ∀ (I' : Nat → Nat → Int32), (∀ b q, b ≠ 46 → b ≠ 47 → I' b q = I b q) → (∀ q, q < 256 → I' 46 q = 0) → (∀ q, q < 256 → I' 47 q = nI (clb q)) → mj_rn (mj_X0 L xs) (mj_hd []) (mj_call (mj_X0 L xs) mj_P (mj_bi (mj_X0 L xs)) d) mb_107 171 [some (.ref 36), some (.int (nI 256)), none] [] (sh59, I', Lg, Rf, nc, ns) Q) :
    ∀ (m j : Nat) (I' : Nat → Nat → Int32) (w : Option Value), j + m = 256 → (∀ b q, b ≠ 46 → b ≠ 47 → I' b q = I b q) → (∀ q, q < j → I' 46 q = 0) → (∀ q, q < j → I' 47 q = nI (clb q)) → mj_rn (mj_X0 L xs) (mj_hd []) (mj_call (mj_X0 L xs) mj_P (mj_bi (mj_X0 L xs)) d) mb_107 104 [some (.ref 36), some (.int (nI j)), w] [] (sh59, I', Lg, Rf, nc, ns) Q := by
  have hm := mm_rf hM'
  intro m
  induction m with
  | zero =>
    intro j I' w hj h2 h3 h4
    obtain rfl : j = 256 := by omega
    refine mj_blk rfl ?_
    simp +decide only [mjs_0, mjs_1, mjs_2, mjs_3, mjs_ble, true_and, Bool.false_eq_true, if_false, if_true, Nat.reduceAdd, Nat.reduceSub, Nat.reduceLeDiff]
    exact ⟨fun _ => hk I' h2 h3 h4, fun q => q.elim⟩
  | succ m ih =>
    intro j I' w hj h2 h3 h4
    have e0 : (nI j).toNatClampNeg = j := nI_clamp (by omega)
    refine mj_blk rfl ?_
    simp +decide only [mjs_0, mjs_1, mjs_2, mjs_3, mjs_ble, true_and, Bool.false_eq_true, if_false, if_true, Nat.reduceAdd, Nat.reduceSub, Nat.reduceLeDiff]
    refine ⟨fun q => absurd q (nI_ge (a := j) (b := 256) (by omega) (by decide)), fun _ => mj_blk rfl ?_⟩
    simp +decide only [mjs_0, mjs_1, mjs_2, mjs_3, mjs_ble, true_and, Bool.false_eq_true, if_false, if_true, Nat.reduceAdd, Nat.reduceSub, Nat.reduceLeDiff, mm_sh, hm, e0]
    have K164 : ∀ (w : Option Value), mj_rn (mj_X0 L xs) (mj_hd []) (mj_call (mj_X0 L xs) mj_P (mj_bi (mj_X0 L xs)) d) mb_107 164 [some (.ref 36), some (.int (nI j)), w] [.int (nI (clb j)), .int (nI j), .ref 47] (sh59, mj_up I' 46 j 0, Lg, Rf, nc, ns) Q := by
      intro w
      refine mj_blk rfl ?_
      simp +decide only [mjs_0, mjs_1, mjs_2, mjs_3, mjs_ble, true_and, Bool.false_eq_true, if_false, if_true, Nat.reduceAdd, Nat.reduceSub, Nat.reduceLeDiff, mm_sh, hm, nI_1, e0]
      refine ⟨nI_in (by omega) (by decide), ih (j + 1) _ _ (by omega) (fun b q h46 h47 => ?_) (fun q hq => ?_) (fun q hq => ?_)⟩
      · rw [mjs_up_c h47, mjs_up_c h46]
        exact h2 b q h46 h47
      · rw [mjs_up_c (by decide)]
        by_cases h : q = j
        · rw [h, mjs_up_at]
        · rw [mjs_up_ne (Or.inr h)]
          exact h3 q (by omega)
      · by_cases h : q = j
        · rw [h, mjs_up_at]
        · rw [mjs_up_ne (Or.inr h), mjs_up_c (by decide)]
          exact h4 q (by omega)
    have K146 : ¬ ((97 ≤ j ∧ j ≤ 122) ∨ (65 ≤ j ∧ j ≤ 90)) → ∀ (w : Option Value), mj_rn (mj_X0 L xs) (mj_hd []) (mj_call (mj_X0 L xs) mj_P (mj_bi (mj_X0 L xs)) d) mb_107 146 [some (.ref 36), some (.int (nI j)), w] [] (sh59, mj_up I' 46 j 0, Lg, Rf, nc, ns) Q := by
      intro hno w
      have e : (12 : Int32) = nI (clb j) := by
        unfold clb
        rw [if_neg hno]
        rfl
      refine mj_blk rfl ?_
      simp +decide only [mjs_0, mjs_1, mjs_2, mjs_3, mjs_ble, true_and, Bool.false_eq_true, if_false, if_true, Nat.reduceAdd, Nat.reduceSub, Nat.reduceLeDiff]
      refine mj_blk rfl ?_
      simp +decide only [mjs_0, mjs_1, mjs_2, mjs_3, mjs_ble, true_and, Bool.false_eq_true, if_false, if_true, Nat.reduceAdd, Nat.reduceSub, Nat.reduceLeDiff, mm_sh, hm]
      refine ⟨fun _ => mj_blk rfl ?_, fun q => q.elim⟩
      simp +decide only [mjs_0, mjs_1, mjs_2, mjs_3, mjs_ble, true_and, Bool.false_eq_true, if_false, if_true, Nat.reduceAdd, Nat.reduceSub, Nat.reduceLeDiff]
      rw [e]
      exact K164 _
    have K142 : ((97 ≤ j ∧ j ≤ 122) ∨ (65 ≤ j ∧ j ≤ 90)) → ∀ (w : Option Value), mj_rn (mj_X0 L xs) (mj_hd []) (mj_call (mj_X0 L xs) mj_P (mj_bi (mj_X0 L xs)) d) mb_107 142 [some (.ref 36), some (.int (nI j)), w] [] (sh59, mj_up I' 46 j 0, Lg, Rf, nc, ns) Q := by
      intro hyes w
      have e : (11 : Int32) = nI (clb j) := by
        unfold clb
        rw [if_pos hyes]
        rfl
      refine mj_blk rfl ?_
      simp +decide only [mjs_0, mjs_1, mjs_2, mjs_3, mjs_ble, true_and, Bool.false_eq_true, if_false, if_true, Nat.reduceAdd, Nat.reduceSub, Nat.reduceLeDiff]
      refine mj_blk rfl ?_
      simp +decide only [mjs_0, mjs_1, mjs_2, mjs_3, mjs_ble, true_and, Bool.false_eq_true, if_false, if_true, Nat.reduceAdd, Nat.reduceSub, Nat.reduceLeDiff, mm_sh, hm]
      refine ⟨fun q => q.elim, fun _ => mj_blk rfl ?_⟩
      simp +decide only [mjs_0, mjs_1, mjs_2, mjs_3, mjs_ble, true_and, Bool.false_eq_true, if_false, if_true, Nat.reduceAdd, Nat.reduceSub, Nat.reduceLeDiff]
      rw [e]
      exact K164 _
    have K130 : ¬ (97 ≤ j ∧ j ≤ 122) → ∀ (w : Option Value), mj_rn (mj_X0 L xs) (mj_hd []) (mj_call (mj_X0 L xs) mj_P (mj_bi (mj_X0 L xs)) d) mb_107 130 [some (.ref 36), some (.int (nI j)), w] [] (sh59, mj_up I' 46 j 0, Lg, Rf, nc, ns) Q := by
      intro hno w
      refine mj_blk rfl ?_
      simp +decide only [mjs_0, mjs_1, mjs_2, mjs_3, mjs_ble, true_and, Bool.false_eq_true, if_false, if_true, Nat.reduceAdd, Nat.reduceSub, Nat.reduceLeDiff]
      refine ⟨fun q => K146 (by have := (nI_ltI (b := 65) (by omega) (by decide)).mp q; omega) _, fun q => mj_blk rfl ?_⟩
      have q65 : ¬ j < 65 := fun h => q (nI_lt (b := 65) h (by decide))
      simp +decide only [mjs_0, mjs_1, mjs_2, mjs_3, mjs_ble, true_and, Bool.false_eq_true, if_false, if_true, Nat.reduceAdd, Nat.reduceSub, Nat.reduceLeDiff]
      exact ⟨fun q2 => K146 (by have := (nI_ltI (a := 90) (by decide) (by omega)).mp q2; omega) _, fun q2 => K142 (Or.inr ⟨by omega, by
        by_cases h : j ≤ 90
        · exact h
        · exact absurd (nI_lt (a := 90) (by omega) (by omega)) q2⟩) _⟩
    refine ⟨nI_in (by omega) (by decide), fun q => K130 (by have := (nI_ltI (b := 97) (by omega) (by decide)).mp q; omega) _, fun q => mj_blk rfl ?_⟩
    have q97 : ¬ j < 97 := fun h => q (nI_lt (b := 97) h (by decide))
    simp +decide only [mjs_0, mjs_1, mjs_2, mjs_3, mjs_ble, true_and, Bool.false_eq_true, if_false, if_true, Nat.reduceAdd, Nat.reduceSub, Nat.reduceLeDiff]
    exact ⟨fun q2 => K142 (Or.inl ⟨by omega, (nI_leI (b := 122) (by omega) (by decide)).mp q2⟩) _, fun q2 => K130 (fun h => q2 (nI_le (b := 122) h.2 (by decide))) _⟩
/-- clear -/
theorem c_107x (hM' : mj_Rt mm_R Rf) (hQ : ∀ I' : Nat → Nat → Int32, (∀ b q, b ≠ 36 → b ≠ 40 → b ≠ 41 → b ≠ 42 → b ≠ 45 → b ≠ 46 → b ≠ 47 → I' b q = I b q) → (∀ q, q ∈ mm_cf → I' 36 q = 0) → (I' 36 0 = I 36 0 ∧ I' 36 1 = I 36 1) → (∀ q, q < 256 → I' 46 q = 0) → (∀ q, q < 256 → I' 47 q = nI (ct q)) → rd_C I' 36 rmc rml 36 → (∀ q, q < 36 → I' 45 q = nI (1000 + q)) → (∀ q, 36 ≤ q → q < 1400 → I' 45 q = 0) → Q (.inl none) (sh59, I', Lg, Rf, nc, ns)) :
    mj_call (mj_X0 L xs) mj_P (mj_bi (mj_X0 L xs)) (d + 3) 107 [.ref 36] (sh59, I, Lg, Rf, nc, ns) Q := by
  have hm := mm_rf hM'
  refine mj_enter (z := (3, [], mb_107)) (by decide) rfl rfl ?_
  refine mj_blk rfl ?_
  simp +decide only [mjs_0, mjs_1, mjs_2, mjs_3, mjs_ble, true_and, Bool.false_eq_true, if_false, if_true, Nat.reduceAdd, Nat.reduceSub, Nat.reduceLeDiff, mm_sh]
  refine f107_Ax hM' (fun I1 h1 h1z => ?_) 1400 0 _ rfl (fun _ _ _ => rfl) (fun q hq => absurd hq (Nat.not_lt_zero q))
  refine mj_blk rfl ?_
  simp +decide only [mjs_0, mjs_1, mjs_2, mjs_3, mjs_ble, true_and, Bool.false_eq_true, if_false, if_true, Nat.reduceAdd, Nat.reduceSub, Nat.reduceLeDiff]
  refine f107_Bx hM' (fun I2 h2 h3 h4 => ?_) 256 0 I1 _ rfl (fun _ _ _ _ => rfl) (fun q hq => absurd hq (Nat.not_lt_zero q)) (fun q hq => absurd hq (Nat.not_lt_zero q))
  refine mj_blk rfl ?_
  simp +decide only [mjs_0, mjs_1, mjs_2, mjs_3, mjs_ble, true_and, Bool.false_eq_true, if_false, if_true, Nat.reduceAdd, Nat.reduceSub, Nat.reduceLeDiff, mm_sh, hm]
  refine ⟨by unfold vp_in; decide, by unfold vp_in; decide, by unfold vp_in; decide, by unfold vp_in; decide, by unfold vp_in; decide, by unfold vp_in; decide, by unfold vp_in; decide, by unfold vp_in; decide, by unfold vp_in; decide, by unfold vp_in; decide, by unfold vp_in; decide, by unfold vp_in; decide, by unfold vp_in; decide, by unfold vp_in; decide, by unfold vp_in; decide, ?_⟩
  refine c_108x hM' ?_ (fun I3 hP hrd hm1 hm2 => hQ I3 (fun b q b1 b2 b3 b4 b5 b6 b7 => ?_) (fun q hq => ?_) ⟨?_, ?_⟩ (fun q hq => ?_) (fun q hq => ?_) hrd hm1 (fun q q1 q2 => ?_))
  · simp only [mjs_up_c (show (36 : Nat) ≠ 47 by decide)]
    rw [h2 36 11 (by decide) (by decide), h1 36 11 (by decide)]
    simp +decide only [mjs_0, mjs_1, mjs_2, mjs_3, mjs_ble, true_and, Bool.false_eq_true, if_false, if_true, Nat.reduceAdd, Nat.reduceSub, Nat.reduceLeDiff, mjs_lit, mjs_ttb, Nat.reduceEqDiff]
  · rw [hP.1 b q b1 b2 b3 b4 b5]
    simp only [mjs_up_c b7]
    rw [h2 b q b6 b7, h1 b q b5]
    simp only [mjs_up_c b1]
  · have hq' : q ≠ 11 ∧ q ≠ 15 := by
      constructor <;> (rintro rfl; revert hq; decide)
    rw [hP.2 q hq'.1 hq'.2]
    simp only [mjs_up_c (show (36 : Nat) ≠ 47 by decide)]
    rw [h2 36 q (by decide) (by decide), h1 36 q (by decide)]
    unfold mm_cf at hq
    simp only [List.mem_cons, List.not_mem_nil, or_false] at hq
    rcases hq with rfl | rfl | rfl | rfl | rfl | rfl | rfl | rfl | rfl | rfl | rfl | rfl | rfl | rfl | rfl <;> simp +decide only [mjs_0, mjs_1, mjs_2, mjs_3, mjs_ble, true_and, Bool.false_eq_true, if_false, if_true, Nat.reduceAdd, Nat.reduceSub, Nat.reduceLeDiff, mjs_lit, mjs_ttb, Nat.reduceEqDiff]
  · rw [hP.2 0 (by decide) (by decide)]
    simp only [mjs_up_c (show (36 : Nat) ≠ 47 by decide)]
    rw [h2 36 0 (by decide) (by decide), h1 36 0 (by decide)]
    simp +decide only [mjs_0, mjs_1, mjs_2, mjs_3, mjs_ble, true_and, Bool.false_eq_true, if_false, if_true, Nat.reduceAdd, Nat.reduceSub, Nat.reduceLeDiff, mjs_lit, mjs_ttb, Nat.reduceEqDiff]
  · rw [hP.2 1 (by decide) (by decide)]
    simp only [mjs_up_c (show (36 : Nat) ≠ 47 by decide)]
    rw [h2 36 1 (by decide) (by decide), h1 36 1 (by decide)]
    simp +decide only [mjs_0, mjs_1, mjs_2, mjs_3, mjs_ble, true_and, Bool.false_eq_true, if_false, if_true, Nat.reduceAdd, Nat.reduceSub, Nat.reduceLeDiff, mjs_lit, mjs_ttb, Nat.reduceEqDiff]
  · rw [hP.1 46 q (by decide) (by decide) (by decide) (by decide) (by decide)]
    simp only [mjs_up_c (show (46 : Nat) ≠ 47 by decide)]
    exact h3 q hq
  · rw [hP.1 47 q (by decide) (by decide) (by decide) (by decide) (by decide)]
    have lit : ∀ x : Nat, x < 2 ^ 31 → (nI x).toNatClampNeg = x := fun x hx => nI_clamp hx
    have h4q := h4 q hq
    have n92 : (92 : Int32).toNatClampNeg = 92 := by decide
    have n123 : (123 : Int32).toNatClampNeg = 123 := by decide
    have n125 : (125 : Int32).toNatClampNeg = 125 := by decide
    have n36 : (36 : Int32).toNatClampNeg = 36 := by decide
    have n38 : (38 : Int32).toNatClampNeg = 38 := by decide
    have n13 : (13 : Int32).toNatClampNeg = 13 := by decide
    have n35 : (35 : Int32).toNatClampNeg = 35 := by decide
    have n94 : (94 : Int32).toNatClampNeg = 94 := by decide
    have n95 : (95 : Int32).toNatClampNeg = 95 := by decide
    have n32 : (32 : Int32).toNatClampNeg = 32 := by decide
    have n9 : (9 : Int32).toNatClampNeg = 9 := by decide
    have n126 : (126 : Int32).toNatClampNeg = 126 := by decide
    have n37 : (37 : Int32).toNatClampNeg = 37 := by decide
    have n127 : (127 : Int32).toNatClampNeg = 127 := by decide
    simp only [n92, n123, n125, n36, n38, n13, n35, n94, n95, n0_c, n32, n9, n126, n37, n127]
    unfold ct
    by_cases e127 : q = 127
    · subst e127; simp +decide only [mjs_up_at]
    rw [mjs_up_ne (Or.inr e127)]
    by_cases e37 : q = 37
    · subst e37; simp +decide only [mjs_up_at]
    rw [mjs_up_ne (Or.inr e37)]
    by_cases e126 : q = 126
    · subst e126; simp +decide only [mjs_up_at]
    rw [mjs_up_ne (Or.inr e126)]
    by_cases e9 : q = 9
    · subst e9; simp +decide only [mjs_up_at]
    rw [mjs_up_ne (Or.inr e9)]
    by_cases e32 : q = 32
    · subst e32; simp +decide only [mjs_up_at]
    rw [mjs_up_ne (Or.inr e32)]
    by_cases ee0 : q = 0
    · subst ee0; simp +decide only [mjs_up_at]
    rw [mjs_up_ne (Or.inr ee0)]
    by_cases e95 : q = 95
    · subst e95; simp +decide only [mjs_up_at]
    rw [mjs_up_ne (Or.inr e95)]
    by_cases e94 : q = 94
    · subst e94; simp +decide only [mjs_up_at]
    rw [mjs_up_ne (Or.inr e94)]
    by_cases e35 : q = 35
    · subst e35; simp +decide only [mjs_up_at]
    rw [mjs_up_ne (Or.inr e35)]
    by_cases e13 : q = 13
    · subst e13; simp +decide only [mjs_up_at]
    rw [mjs_up_ne (Or.inr e13)]
    by_cases e38 : q = 38
    · subst e38; simp +decide only [mjs_up_at]
    rw [mjs_up_ne (Or.inr e38)]
    by_cases e36 : q = 36
    · subst e36; simp +decide only [mjs_up_at]
    rw [mjs_up_ne (Or.inr e36)]
    by_cases e125 : q = 125
    · subst e125; simp +decide only [mjs_up_at]
    rw [mjs_up_ne (Or.inr e125)]
    by_cases e123 : q = 123
    · subst e123; simp +decide only [mjs_up_at]
    rw [mjs_up_ne (Or.inr e123)]
    by_cases e92 : q = 92
    · subst e92; simp +decide only [mjs_up_at]
    rw [mjs_up_ne (Or.inr e92), h4q, if_neg e92, if_neg e123, if_neg e125, if_neg e36, if_neg e38, if_neg e13, if_neg e35, if_neg e94, if_neg e95, if_neg ee0, if_neg e32, if_neg e9, if_neg e126, if_neg e37, if_neg e127]
    rfl
  · rw [hm2 q q1]
    simp only [mjs_up_c (show (45 : Nat) ≠ 47 by decide)]
    rw [h2 45 q (by decide) (by decide)]
    exact h1z q q2
/-- what the reference begins a run with -/
theorem g0_rr {vb : Nat → Int32} {lim st mm n : Nat} {tx : Nat → Nat} {J J' : Nat → Nat → Int32} (hV : VB vb) (h1 : ∀ b q, b ≠ 36 → b ≠ 40 → b ≠ 41 → b ≠ 42 → b ≠ 45 → b ≠ 46 → b ≠ 47 → J' b q = J b q) (h2 : ∀ q, q ∈ mm_cf → J' 36 q = 0) (h37 : J' 36 37 = nI lim) (ht1 : J' 36 1 = nI n) (ht2 : ∀ j, j < n → J' 37 j = bt (tx j)) (h3 : ∀ q, q < 256 → J' 46 q = 0) (h4 : ∀ q, q < 256 → J' 47 q = nI (ct q)) (h5 : rd_C J' 36 rmc rml 36) (h6 : ∀ q, q < 36 → J' 45 q = nI (1000 + q)) (h7 : ∀ q, 36 ≤ q → q < 1400 → J' 45 q = 0) : RR J (g0 vb lim st mm n tx) J' := by
  refine ⟨⟨h2 36 (by decide), h37, h2 38 (by decide), h2 39 (by decide)⟩, ⟨h2 29 (by decide), trivial⟩, trivial, ⟨rmc, rml, h5, fun i hi => ?_⟩, ⟨h2 17 (by decide), fun l hl => absurd hl (Nat.not_lt_zero _), fun l c hl hc => ?_, fun l i hl hi => ?_, (show (0 : Nat) ≤ 100 by decide)⟩, ⟨h2 27 (by decide), h2 22 (by decide), fun j hj => absurd hj (Nat.not_lt_zero _)⟩, ⟨h2 33 (by decide), fun j hj => absurd hj (Nat.not_lt_zero _)⟩, ⟨⟨h2 3 (by decide), fun j hj => absurd hj (Nat.not_lt_zero _)⟩, h2 40 (by decide)⟩, ⟨ht1, h2 5 (by decide), fun h => absurd rfl h, ⟨0, h2 9 (by decide), h2 8 (by decide), (show (0 : Nat) + 0 ≤ 4001 by decide), fun i hi => absurd hi (Nat.not_lt_zero _)⟩, ⟨0, h2 6 (by decide), Nat.le_refl _⟩, fun j _ hj => ht2 j hj⟩, fun c hc => ?_⟩
  · have hi' : i < 36 := hi
    show pml (ri (rp i)) = pml i ∧ ∀ j, j < pml i → pmc (ri (rp i)) j = pmc i j
    rw [ri_rp hi']
    exact ⟨rfl, fun _ _ => rfl⟩
  · obtain rfl : l = 0 := Nat.le_zero.mp hl
    have hv := hV.2.1 c hc
    simp only [Nat.mul_zero, Nat.zero_add]
    exact ⟨(h3 c hc).trans hv.1.symm, (h4 c hc).trans hv.2.1.symm, Or.inl ⟨hv.2.2, h7 (1100 + c) (by omega) (by omega)⟩⟩
  · obtain rfl : l = 0 := Nat.le_zero.mp hl
    have hi' : i < 36 := hi
    rw [Nat.mul_zero, Nat.zero_add]
    refine Or.inr (Or.inl ⟨i + 1, by omega, by omega, hV.2.2.1 i hi', ?_⟩)
    exact h6 (rp i) (rp_lt hi' (by decide))
  · funext q
    exact h1 c q (by omega) (by omega) (by omega) (by omega) (by omega) (by omega) (by omega)
end MJCL
