/-! NAMES: find keeps to its rows -/
def nm_C (sh : List (Nat × Nat)) (Rf : Nat → Nat → Option Nat) (o l s f n : Nat) : Prop := sh[o]? = some (5, 6) ∧ sh[l]? = some (1002, 40237) ∧ sh[s]? = some (1000, 1037) ∧ sh[f]? = some (1000, 256) ∧ sh[n]? = some (1000, 1036) ∧ Rf o 0 = some l ∧ Rf o 1 = some s ∧ Rf o 2 = some f ∧ Rf o 4 = some n
def nm_id (k : Nat) (x : Int32) : Prop := x = -1 ∨ ∃ i : Nat, i < k ∧ x = nI i
def nm_I (I : Nat → Nat → Int32) (o s f n k M : Nat) : Prop := I o 5 = nI k ∧ k ≤ M ∧ M ≤ 1036 ∧ (∀ j, j < 256 → nm_id k (I f j)) ∧ (∀ j, j < k → nm_id k (I n j)) ∧ ∀ j, j ≤ k → ∃ v : Nat, I s j = nI v ∧ v + 40 * (M - j) ≤ 40237
section MJNAMES
variable {X : mj_X} {d : Nat} {Q : mj_Q} {sh : List (Nat × Nat)} {I : Nat → Nat → Int32} {Lg : Nat → Nat → Int64} {Rf : Nat → Nat → Option Nat} {nc ns o l s f n r rn a len k M : Nat}
theorem f57_hash (hr : sh[r]? = some (1000, rn)) (hrn : rn < 2 ^ 31) (hal : a + len ≤ rn)
    (hk : ∀ h : Int32, mj_rn X (mj_hd []) (mj_call X mj_P (mj_bi X) d) mb_57 32 [some (.ref o), some (.ref r), some (.int (nI a)), some (.int (nI len)), some (.int h), some (.int (nI len)), none, none, none] [] (sh, I, Lg, Rf, nc, ns) Q) :
    ∀ (m j : Nat) (h : Int32), j + m = len → mj_rn X (mj_hd []) (mj_call X mj_P (mj_bi X) d) mb_57 6 [some (.ref o), some (.ref r), some (.int (nI a)), some (.int (nI len)), some (.int h), some (.int (nI j)), none, none, none] [] (sh, I, Lg, Rf, nc, ns) Q
  | 0, j, h, hj => by
    obtain rfl : j = len := by omega
    refine mj_blk rfl ?_
    simp +decide only [mjs_0, mjs_1, mjs_2, mjs_3, mjs_ble, true_and, Bool.false_eq_true, if_false, if_true, Nat.reduceAdd, Nat.reduceSub, Nat.reduceLeDiff]
    exact ⟨fun _ => hk h, fun q => absurd (nI_le (Nat.le_refl j) (by omega)) q⟩
  | m + 1, j, h, hj => by
    refine mj_blk rfl ?_
    simp +decide only [mjs_0, mjs_1, mjs_2, mjs_3, mjs_ble, true_and, Bool.false_eq_true, if_false, if_true, Nat.reduceAdd, Nat.reduceSub, Nat.reduceLeDiff]
    refine ⟨fun q => absurd q (nI_ge (by omega) (by omega)), fun _ => mj_blk rfl ?_⟩
    simp +decide only [mjs_0, mjs_1, mjs_2, mjs_3, mjs_ble, true_and, Bool.false_eq_true, if_false, if_true, Nat.reduceAdd, Nat.reduceSub, Nat.reduceLeDiff, mjs_ar (t := 0) hr, nI_add, nI_1]
    exact ⟨nI_in (by omega) hrn, f57_hash hr hrn hal hk m (j + 1) _ (by omega)⟩
theorem nm_st (hI : nm_I I o s f n k M) {j : Nat} (hj : j ≤ k) : ∃ v : Nat, I s j = nI v ∧ v + 40 * (M - j) ≤ 40237 := hI.2.2.2.2.2 j hj
/-- the letters of one name against the row's -/
theorem f57_same (hC : nm_C sh Rf o l s f n) (hr : sh[r]? = some (1000, rn)) (hrn : rn < 2 ^ 31) (hal : a + len ≤ rn) (hlen : len ≤ 40) {x v B : Nat} (hx : x < 1036) (hv : I s x = nI v) (hvb : v + 40 ≤ 40237) {i bk : Int32}
    (hk : ∀ c : Int32, (c = -1 ∨ c = nI len) → mj_rn X (mj_hd []) (mj_call X mj_P (mj_bi X) d) mb_57 142 [some (.ref o), some (.ref r), some (.int (nI a)), some (.int (nI len)), none, some (.int bk), some (.int (nI x)), some (.int i), some (.int c)] [] (sh, I, Lg, Rf, nc, ns) Q) :
    (∀ (m y : Nat), y + m = len → mj_rn X (mj_hd []) (mj_call X mj_P (mj_bi X) d) mb_57 94 [some (.ref o), some (.ref r), some (.int (nI a)), some (.int (nI len)), none, some (.int bk), some (.int (nI x)), some (.int i), some (.int (nI y))] [] (sh, I, Lg, Rf, nc, ns) Q) ∧
    mj_rn X (mj_hd []) (mj_call X mj_P (mj_bi X) d) mb_57 94 [some (.ref o), some (.ref r), some (.int (nI a)), some (.int (nI len)), none, some (.int bk), some (.int (nI x)), some (.int i), some (.int (-1))] [] (sh, I, Lg, Rf, nc, ns) Q := by
  obtain ⟨c1, c2, c3, c4, c5, r0, r1, r2, r4⟩ := hC
  have h1 : mj_rn X (mj_hd []) (mj_call X mj_P (mj_bi X) d) mb_57 94 [some (.ref o), some (.ref r), some (.int (nI a)), some (.int (nI len)), none, some (.int bk), some (.int (nI x)), some (.int i), some (.int (-1))] [] (sh, I, Lg, Rf, nc, ns) Q := by
    refine mj_blk rfl ?_
    simp +decide only [mjs_0, mjs_1, mjs_2, mjs_3, mjs_ble, true_and, Bool.false_eq_true, if_false, if_true, Nat.reduceAdd, Nat.reduceSub, Nat.reduceLeDiff]
    exact ⟨fun _ => hk _ (Or.inl rfl), fun q => q.elim⟩
  refine ⟨fun m => ?_, h1⟩
  induction m with
  | zero =>
    intro y hy
    obtain rfl : y = len := by omega
    refine mj_blk rfl ?_
    simp +decide only [mjs_0, mjs_1, mjs_2, mjs_3, mjs_ble, true_and, Bool.false_eq_true, if_false, if_true, Nat.reduceAdd, Nat.reduceSub, Nat.reduceLeDiff]
    refine ⟨fun q => absurd q (nI_pos (by omega)), fun _ => mj_blk rfl ?_⟩
    simp +decide only [mjs_0, mjs_1, mjs_2, mjs_3, mjs_ble, true_and, Bool.false_eq_true, if_false, if_true, Nat.reduceAdd, Nat.reduceSub, Nat.reduceLeDiff]
    exact ⟨fun _ => hk _ (Or.inr rfl), fun q => absurd (nI_le (Nat.le_refl y) (by omega)) q⟩
  | succ m ih =>
    intro y hy
    refine mj_blk rfl ?_
    simp +decide only [mjs_0, mjs_1, mjs_2, mjs_3, mjs_ble, true_and, Bool.false_eq_true, if_false, if_true, Nat.reduceAdd, Nat.reduceSub, Nat.reduceLeDiff]
    refine ⟨fun q => absurd q (nI_pos (by omega)), fun _ => mj_blk rfl ?_⟩
    simp +decide only [mjs_0, mjs_1, mjs_2, mjs_3, mjs_ble, true_and, Bool.false_eq_true, if_false, if_true, Nat.reduceAdd, Nat.reduceSub, Nat.reduceLeDiff]
    refine ⟨fun q => absurd q (nI_ge (by omega) (by omega)), fun _ => mj_blk rfl ?_⟩
    have e1 : (nI x).toNatClampNeg = x := nI_clamp (by omega)
    simp +decide only [mjs_0, mjs_1, mjs_2, mjs_3, mjs_ble, true_and, Bool.false_eq_true, if_false, if_true, Nat.reduceAdd, Nat.reduceSub, Nat.reduceLeDiff, mjs_ob c1, r0, r1, mjs_ar (t := 0) c3, mjs_ar (t := 2) c2, mjs_ar (t := 0) hr, e1, hv, nI_add]
    refine ⟨nI_in (by omega) (by omega), nI_in (by omega) (by omega), nI_in (by omega) hrn, fun _ => mj_blk rfl ?_, fun _ => mj_blk rfl ?_⟩
    · simp +decide only [mjs_0, mjs_1, mjs_2, mjs_3, mjs_ble, true_and, Bool.false_eq_true, if_false, if_true, Nat.reduceAdd, Nat.reduceSub, Nat.reduceLeDiff]
      refine mj_blk rfl ?_
      simp +decide only [mjs_0, mjs_1, mjs_2, mjs_3, mjs_ble, true_and, Bool.false_eq_true, if_false, if_true, Nat.reduceAdd, Nat.reduceSub, Nat.reduceLeDiff]
      exact h1
    · simp +decide only [mjs_0, mjs_1, mjs_2, mjs_3, mjs_ble, true_and, Bool.false_eq_true, if_false, if_true, Nat.reduceAdd, Nat.reduceSub, Nat.reduceLeDiff, nI_1]
      refine mj_blk rfl ?_
      simp +decide only [mjs_0, mjs_1, mjs_2, mjs_3, mjs_ble, true_and, Bool.false_eq_true, if_false, if_true, Nat.reduceAdd, Nat.reduceSub, Nat.reduceLeDiff]
      exact ih (y + 1) (by omega)
theorem nm_len_ne {len : Nat} (h : len < 2 ^ 31) : ¬ (-1 : Int32) = nI len := by
  intro q
  have := nI_pos h
  rw [← q] at this
  exact this (by decide)
theorem f57_chain (hC : nm_C sh Rf o l s f n) (hr : sh[r]? = some (1000, rn)) (hrn : rn < 2 ^ 31) (hal : a + len ≤ rn) (hlen : len ≤ 40) (hI : nm_I I o s f n k M) {bk : Int32}
    (h166 : ∀ x i : Int32, mj_rn X (mj_hd []) (mj_call X mj_P (mj_bi X) d) mb_57 166 [some (.ref o), some (.ref r), some (.int (nI a)), some (.int (nI len)), none, some (.int bk), some (.int x), some (.int i), none] [] (sh, I, Lg, Rf, nc, ns) Q)
    (hret : ∀ x : Nat, x < k → Q (.inl (some (.int (nI x)))) (sh, I, Lg, Rf, nc, ns)) :
    ∀ (m i : Nat) (x : Int32) (w : Option Value), i + m = k → nm_id k x → mj_rn X (mj_hd []) (mj_call X mj_P (mj_bi X) d) mb_57 52 [some (.ref o), some (.ref r), some (.int (nI a)), some (.int (nI len)), w, some (.int bk), some (.int x), some (.int (nI i)), none] [] (sh, I, Lg, Rf, nc, ns) Q := by
  have hC' := hC
  obtain ⟨c1, c2, c3, c4, c5, r0, r1, r2, r4⟩ := hC
  obtain ⟨i1, i2, i3, i4, i5, i6⟩ := hI
  intro m
  induction m with
  | zero =>
    intro i x w hi hx
    obtain rfl : i = k := by omega
    refine mj_blk rfl ?_
    simp +decide only [mjs_0, mjs_1, mjs_2, mjs_3, mjs_ble, true_and, Bool.false_eq_true, if_false, if_true, Nat.reduceAdd, Nat.reduceSub, Nat.reduceLeDiff, mjs_ob c1, i1]
    exact ⟨fun _ => h166 x _, fun q => absurd (nI_le (Nat.le_refl i) (by omega)) q⟩
  | succ m ih =>
    intro i x w hi hx
    refine mj_blk rfl ?_
    simp +decide only [mjs_0, mjs_1, mjs_2, mjs_3, mjs_ble, true_and, Bool.false_eq_true, if_false, if_true, Nat.reduceAdd, Nat.reduceSub, Nat.reduceLeDiff, mjs_ob c1, i1]
    refine ⟨fun q => absurd q (nI_ge (by omega) (by omega)), fun _ => mj_blk rfl ?_⟩
    simp +decide only [mjs_0, mjs_1, mjs_2, mjs_3, mjs_ble, true_and, Bool.false_eq_true, if_false, if_true, Nat.reduceAdd, Nat.reduceSub, Nat.reduceLeDiff]
    refine ⟨fun _ => h166 x _, fun q => mj_blk rfl ?_⟩
    rcases hx with rfl | ⟨y, hy, rfl⟩
    · exact absurd (by decide) q
    obtain ⟨v0, hv0, b0⟩ := i6 y (by omega)
    obtain ⟨v1, hv1, b1⟩ := i6 (y + 1) (by omega)
    have e0 : (nI y).toNatClampNeg = y := nI_clamp (by omega)
    have e1 : (nI (y + 1)).toNatClampNeg = y + 1 := nI_clamp (by omega)
    have hs := f57_same (X := X) (d := d) (Q := Q) (Lg := Lg) (nc := nc) (ns := ns) (B := 0) (i := nI i) (bk := bk) hC' hr hrn hal hlen (x := y) (v := v0) (by omega) hv0 (by omega) (fun c hc => by
      refine mj_blk rfl ?_
      simp +decide only [mjs_0, mjs_1, mjs_2, mjs_3, mjs_ble, true_and, Bool.false_eq_true, if_false, if_true, Nat.reduceAdd, Nat.reduceSub, Nat.reduceLeDiff]
      refine ⟨fun _ => mj_blk rfl ?_, fun _ => mj_blk rfl ?_⟩
      · simp +decide only [mjs_0, mjs_1, mjs_2, mjs_3, mjs_ble, true_and, Bool.false_eq_true, if_false, if_true, Nat.reduceAdd, Nat.reduceSub, Nat.reduceLeDiff, mjs_ob c1, r4, mjs_ar (t := 0) c5, e0, nI_1]
        exact ⟨nI_in (by omega) (by omega), ih (i + 1) _ _ (by omega) (i5 y hy)⟩
      · simp +decide only [mjs_0, mjs_1, mjs_2, mjs_3, mjs_ble, true_and, Bool.false_eq_true, if_false, if_true, Nat.reduceAdd, Nat.reduceSub, Nat.reduceLeDiff]
        exact hret y hy)
    simp +decide only [mjs_0, mjs_1, mjs_2, mjs_3, mjs_ble, true_and, Bool.false_eq_true, if_false, if_true, Nat.reduceAdd, Nat.reduceSub, Nat.reduceLeDiff, mjs_ob c1, r1, mjs_ar (t := 0) c3, nI_1, e0, e1, hv0, hv1]
    refine ⟨nI_in (by omega) (by omega), nI_in (by omega) (by omega), fun _ => mj_blk rfl ?_, fun _ => mj_blk rfl ?_⟩
    · simp +decide only [mjs_0, mjs_1, mjs_2, mjs_3, mjs_ble, true_and, Bool.false_eq_true, if_false, if_true, Nat.reduceAdd, Nat.reduceSub, Nat.reduceLeDiff]
      refine mj_blk rfl ?_
      simp +decide only [mjs_0, mjs_1, mjs_2, mjs_3, mjs_ble, true_and, Bool.false_eq_true, if_false, if_true, Nat.reduceAdd, Nat.reduceSub, Nat.reduceLeDiff]
      exact hs.2
    · simp +decide only [mjs_0, mjs_1, mjs_2, mjs_3, mjs_ble, true_and, Bool.false_eq_true, if_false, if_true, Nat.reduceAdd, Nat.reduceSub, Nat.reduceLeDiff]
      refine mj_blk rfl ?_
      simp +decide only [mjs_0, mjs_1, mjs_2, mjs_3, mjs_ble, true_and, Bool.false_eq_true, if_false, if_true, Nat.reduceAdd, Nat.reduceSub, Nat.reduceLeDiff]
      exact hs.1 len 0 (Nat.zero_add _)
theorem f57_copy (hC : nm_C sh Rf o l s f n) (hr : sh[r]? = some (1000, rn)) (hrn : rn < 2 ^ 31) (hal : a + len ≤ rn) {v : Nat} (hv : v + len ≤ 40237) {bk : Int32}
    (hk : ∀ I' : Nat → Nat → Int32, (∀ b q, b ≠ l → I' b q = I b q) → mj_rn X (mj_hd []) (mj_call X mj_P (mj_bi X) d) mb_57 221 [some (.ref o), some (.ref r), some (.int (nI a)), some (.int (nI len)), none, some (.int bk), none, some (.int (nI v)), some (.int (nI len))] [] (sh, I', Lg, Rf, nc, ns) Q) :
    ∀ (m j : Nat) (I' : Nat → Nat → Int32), (∀ b q, b ≠ l → I' b q = I b q) → j + m = len → mj_rn X (mj_hd []) (mj_call X mj_P (mj_bi X) d) mb_57 192 [some (.ref o), some (.ref r), some (.int (nI a)), some (.int (nI len)), none, some (.int bk), none, some (.int (nI v)), some (.int (nI j))] [] (sh, I', Lg, Rf, nc, ns) Q := by
  obtain ⟨c1, c2, c3, c4, c5, r0, r1, r2, r4⟩ := hC
  intro m
  induction m with
  | zero =>
    intro j I' hI' hj
    obtain rfl : j = len := by omega
    refine mj_blk rfl ?_
    simp +decide only [mjs_0, mjs_1, mjs_2, mjs_3, mjs_ble, true_and, Bool.false_eq_true, if_false, if_true, Nat.reduceAdd, Nat.reduceSub, Nat.reduceLeDiff]
    exact ⟨fun _ => hk I' hI', fun q => absurd (nI_le (Nat.le_refl j) (by omega)) q⟩
  | succ m ih =>
    intro j I' hI' hj
    refine mj_blk rfl ?_
    simp +decide only [mjs_0, mjs_1, mjs_2, mjs_3, mjs_ble, true_and, Bool.false_eq_true, if_false, if_true, Nat.reduceAdd, Nat.reduceSub, Nat.reduceLeDiff]
    refine ⟨fun q => absurd q (nI_ge (by omega) (by omega)), fun _ => mj_blk rfl ?_⟩
    simp +decide only [mjs_0, mjs_1, mjs_2, mjs_3, mjs_ble, true_and, Bool.false_eq_true, if_false, if_true, Nat.reduceAdd, Nat.reduceSub, Nat.reduceLeDiff, mjs_ob c1, r0, mjs_ar (t := 2) c2, mjs_ar (t := 0) hr, nI_add, nI_1]
    refine ⟨nI_in (by omega) hrn, nI_in (by omega) (by omega), ih (j + 1) _ (fun b q hb => ?_) (by omega)⟩
    rw [mjs_up_ne (Or.inl hb)]
    exact hI' b q hb
theorem nm_id.up {k : Nat} {x : Int32} (h : nm_id k x) : nm_id (k + 1) x := by
  rcases h with h | ⟨i, hi, h⟩
  · exact Or.inl h
  · exact Or.inr ⟨i, by omega, h⟩
theorem nm_ne {a b x y : Nat} (ha : sh[a]? = some (x, y)) {x' y' : Nat} (hb : sh[b]? = some (x', y')) (h : (x, y) ≠ (x', y')) : a ≠ b := by
  rintro rfl
  rw [ha] at hb
  exact h (Option.some.inj hb)
/-- find: a name's number or -1; at most one name more; all rows else as they were -/
theorem c_57 (hC : nm_C sh Rf o l s f n) (hr : sh[r]? = some (1000, rn)) (hrn : rn < 2 ^ 31) (hal : a + len ≤ rn) (hlen : len ≤ 40) (hI : nm_I I o s f n k M) (hkM : k < M ∨ M = 1036)
    (hQ : ∀ (I' : Nat → Nat → Int32) (k' : Nat) (v : Int32), nm_I I' o s f n k' M → k ≤ k' → k' ≤ k + 1 → nm_id k' v → (∀ b q, b ≠ o → b ≠ l → b ≠ s → b ≠ f → b ≠ n → I' b q = I b q) → (∀ q, q ≠ 5 → I' o q = I o q) → Q (.inl (some (.int v))) (sh, I', Lg, Rf, nc, ns)) :
    mj_call X mj_P (mj_bi X) (d + 1) 57 [.ref o, .ref r, .int (nI a), .int (nI len)] (sh, I, Lg, Rf, nc, ns) Q := by
  have hC' := hC
  have hI' := hI
  obtain ⟨c1, c2, c3, c4, c5, r0, r1, r2, r4⟩ := hC
  obtain ⟨i1, i2, i3, i4, i5, i6⟩ := hI
  have n1 : o ≠ l := nm_ne c1 c2 (by decide)
  have n2 : o ≠ s := nm_ne c1 c3 (by decide)
  have n3 : o ≠ f := nm_ne c1 c4 (by decide)
  have n4 : o ≠ n := nm_ne c1 c5 (by decide)
  have n5 : f ≠ l := nm_ne c4 c2 (by decide)
  have n6 : f ≠ s := nm_ne c4 c3 (by decide)
  have n7 : f ≠ n := nm_ne c4 c5 (by decide)
  have n8 : n ≠ l := nm_ne c5 c2 (by decide)
  have n9 : n ≠ s := nm_ne c5 c3 (by decide)
  have n10 : s ≠ l := nm_ne c3 c2 (by decide)
  refine mj_enter (z := (9, [], mb_57)) (by decide) rfl rfl ?_
  refine mj_blk rfl ?_
  simp +decide only [mjs_0, mjs_1, mjs_2, mjs_3, mjs_ble, true_and, Bool.false_eq_true, if_false, if_true, Nat.reduceAdd, Nat.reduceSub, Nat.reduceLeDiff]
  refine f57_hash hr hrn hal (fun h => ?_) len 0 _ (Nat.zero_add _)
  refine mj_blk rfl ?_
  obtain ⟨bk, hbk, eb⟩ := pk_andE h (m := 255) 8 (by decide)
  have e0 : (nI bk).toNatClampNeg = bk := nI_clamp (by omega)
  simp +decide only [mjs_0, mjs_1, mjs_2, mjs_3, mjs_ble, true_and, Bool.false_eq_true, if_false, if_true, Nat.reduceAdd, Nat.reduceSub, Nat.reduceLeDiff, eb, mjs_ob c1, r2, mjs_ar (t := 0) c4, e0]
  refine ⟨nI_in (by omega) (by omega), ?_⟩
  refine f57_chain hC' hr hrn hal hlen hI' (fun x i => ?_) (fun x hx => hQ I k _ hI' (Nat.le_refl _) (by omega) (Or.inr ⟨x, hx, rfl⟩) (fun _ _ _ _ _ _ _ => rfl) (fun _ _ => rfl)) k 0 _ _ (Nat.zero_add _) (i4 bk hbk)
  refine mj_blk rfl ?_
  simp +decide only [mjs_0, mjs_1, mjs_2, mjs_3, mjs_ble, true_and, Bool.false_eq_true, if_false, if_true, Nat.reduceAdd, Nat.reduceSub, Nat.reduceLeDiff, mjs_ob c1, i1]
  refine ⟨fun q => mj_blk rfl ?_, fun q => mj_blk rfl ?_⟩
  · have hk : k < 1036 := (nI_ltI (by omega) (by omega)).mp (show nI k < nI 1036 from q)
    obtain ⟨v, hv, b0⟩ := i6 k (Nat.le_refl _)
    have ek : (nI k).toNatClampNeg = k := nI_clamp (by omega)
    have ek1 : (nI (k + 1)).toNatClampNeg = k + 1 := nI_clamp (by omega)
    simp +decide only [mjs_0, mjs_1, mjs_2, mjs_3, mjs_ble, true_and, Bool.false_eq_true, if_false, if_true, Nat.reduceAdd, Nat.reduceSub, Nat.reduceLeDiff, mjs_ob c1, r1, mjs_ar (t := 0) c3, i1, ek, hv]
    refine ⟨nI_in (by omega) (by omega), ?_⟩
    refine f57_copy hC' hr hrn hal (by omega) (fun I1 h1 => ?_) len 0 I (fun _ _ _ => rfl) (Nat.zero_add _)
    refine mj_blk rfl ?_
    have a1 : I1 o 5 = nI k := (h1 o 5 n1).trans i1
    have u1 : ∀ (J : Nat → Nat → Int32) (j : Nat) (w : Int32) (q : Nat), mj_up J s j w o q = J o q := fun J j w q => mjs_up_ne (Or.inl n2)
    have u2 : ∀ (J : Nat → Nat → Int32) (j : Nat) (w : Int32) (q : Nat), mj_up J s j w f q = J f q := fun J j w q => mjs_up_ne (Or.inl n6)
    have u3 : ∀ (J : Nat → Nat → Int32) (j : Nat) (w : Int32) (q : Nat), mj_up J n j w o q = J o q := fun J j w q => mjs_up_ne (Or.inl n4)
    have u4 : ∀ (J : Nat → Nat → Int32) (j : Nat) (w : Int32) (q : Nat), mj_up J f j w o q = J o q := fun J j w q => mjs_up_ne (Or.inl n3)
    simp +decide only [mjs_0, mjs_1, mjs_2, mjs_3, mjs_ble, true_and, Bool.false_eq_true, if_false, if_true, Nat.reduceAdd, Nat.reduceSub, Nat.reduceLeDiff, mjs_ob c1, r1, r2, r4, mjs_ar (t := 0) c3, mjs_ar (t := 0) c4, mjs_ar (t := 0) c5, a1, u1, u2, u3, u4, nI_1, nI_add, ek, ek1, e0, mjs_up_at, nI_pred]
    refine ⟨nI_in (by omega) (by omega), nI_in (by omega) (by omega), nI_in (by omega) (by omega), nI_in (by omega) (by omega), ?_⟩
    refine hQ _ (k + 1) _ ⟨mjs_up_at, by omega, i3, fun j hj => ?_, fun j hj => ?_, fun j hj => ?_⟩ (by omega) (Nat.le_refl _) (Or.inr ⟨k, by omega, rfl⟩) (fun b q hb1 hb2 hb3 hb4 hb5 => ?_) (fun q hq => ?_)
    · rw [mjs_up_ne (Or.inl n3.symm)]
      by_cases hjb : j = bk
      · subst hjb
        rw [mjs_up_at]
        exact Or.inr ⟨k, by omega, rfl⟩
      · rw [mjs_up_ne (Or.inr hjb), mjs_up_ne (Or.inl n7), mjs_up_ne (Or.inl n6), h1 f j n5]
        exact (i4 j hj).up
    · rw [mjs_up_ne (Or.inl n4.symm), mjs_up_ne (Or.inl n7.symm)]
      by_cases hjk : j = k
      · subst hjk
        rw [mjs_up_at, h1 f bk n5]
        exact (i4 bk hbk).up
      · rw [mjs_up_ne (Or.inr hjk), mjs_up_ne (Or.inl n9), h1 n j n8]
        exact (i5 j (by omega)).up
    · rw [mjs_up_ne (Or.inl n2.symm), mjs_up_ne (Or.inl n6.symm), mjs_up_ne (Or.inl n9.symm)]
      by_cases hjk : j = k + 1
      · subst hjk
        rw [mjs_up_at]
        exact ⟨v + len, rfl, by omega⟩
      · rw [mjs_up_ne (Or.inr hjk), h1 s j n10]
        obtain ⟨w, hw, bw⟩ := i6 j (by omega)
        exact ⟨w, hw, bw⟩
    · rw [mjs_up_ne (Or.inl hb1), mjs_up_ne (Or.inl hb4), mjs_up_ne (Or.inl hb5), mjs_up_ne (Or.inl hb3), h1 b q hb2]
    · rw [mjs_up_ne (Or.inr hq), mjs_up_ne (Or.inl n3), mjs_up_ne (Or.inl n4), mjs_up_ne (Or.inl n2), h1 o q n1]
  · simp +decide only [mjs_0, mjs_1, mjs_2, mjs_3, mjs_ble, true_and, Bool.false_eq_true, if_false, if_true, Nat.reduceAdd, Nat.reduceSub, Nat.reduceLeDiff]
    exact hQ I k _ hI' (Nat.le_refl _) (by omega) (Or.inl rfl) (fun _ _ _ _ _ _ _ => rfl) (fun _ _ => rfl)
end MJNAMES
