/-! NAMES: find, exact -/
/-- a row's hash as find reckons it, and its bucket -/
def hs_n (f : Nat → Nat) (len : Nat) : Nat → Int32
  | 0 => nI len
  | j + 1 => 31 * hs_n f len j + nI (f j)
def hs_b (f : Nat → Nat) (len : Nat) : Nat := (hs_n f len len).toBitVec.toNat % 256
theorem hs_eq {f g : Nat → Nat} {len : Nat} : ∀ n, (∀ j, j < n → f j = g j) → hs_n f len n = hs_n g len n
  | 0, _ => rfl
  | n + 1, h => by
    show 31 * hs_n f len n + nI (f n) = 31 * hs_n g len n + nI (g n)
    rw [hs_eq n (fun j hj => h j (by omega)), h n (by omega)]
theorem hs_lt {f : Nat → Nat} {len : Nat} : hs_b f len < 256 := Nat.mod_lt _ (by decide)
/-- names: nm id j the letters, ln id how many, st id where they begin; k names -/
def fd_C (I : Nat → Nat → Int32) (o l s f n : Nat) (nm : Nat → Nat → Nat) (ln st : Nat → Nat) (k : Nat) : Prop := I o 5 = nI k ∧ k ≤ 1036 ∧ (∀ j, j ≤ k → I s j = nI (st j)) ∧ (∀ j, j < k → st (j + 1) = st j + ln j ∧ ln j ≤ 40) ∧ (∀ j, j ≤ k → (j < 36 → st j ≤ 1440) ∧ (36 ≤ j → st j + 40 * (1036 - j) ≤ 40237)) ∧ (∀ id j, id < k → j < ln id → I l (st id + j) = nI (nm id j) ∧ nm id j < 65536)
/-- x is the greatest number below u with this bucket, or -1 -/
def fd_M (nm : Nat → Nat → Nat) (ln : Nat → Nat) (b u : Nat) (x : Int32) : Prop := (x = -1 ∧ ∀ i, i < u → hs_b (nm i) (ln i) ≠ b) ∨ ∃ i, i < u ∧ x = nI i ∧ hs_b (nm i) (ln i) = b ∧ ∀ i', i < i' → i' < u → hs_b (nm i') (ln i') ≠ b
def fd_H (I : Nat → Nat → Int32) (f n : Nat) (nm : Nat → Nat → Nat) (ln : Nat → Nat) (k : Nat) : Prop := (∀ b, b < 256 → fd_M nm ln b k (I f b)) ∧ ∀ j, j < k → fd_M nm ln (hs_b (nm j) (ln j)) j (I n j)
section MJFD
variable {X : mj_X} {d : Nat} {Q : mj_Q} {sh : List (Nat × Nat)} {I : Nat → Nat → Int32} {Lg : Nat → Nat → Int64} {Rf : Nat → Nat → Option Nat} {nc ns o l s f n r rn a len k : Nat} {nm : Nat → Nat → Nat} {ln st w : Nat → Nat}
theorem g57_hash (hr : sh[r]? = some (1000, rn)) (hrn : rn < 2 ^ 31) (hal : a + len ≤ rn) (hw : ∀ j, j < len → I r (a + j) = nI (w j))
    (hk : mj_rn X (mj_hd []) (mj_call X mj_P (mj_bi X) d) mb_57 32 [some (.ref o), some (.ref r), some (.int (nI a)), some (.int (nI len)), some (.int (hs_n w len len)), some (.int (nI len)), none, none, none] [] (sh, I, Lg, Rf, nc, ns) Q) :
    ∀ (m j : Nat), j + m = len → mj_rn X (mj_hd []) (mj_call X mj_P (mj_bi X) d) mb_57 6 [some (.ref o), some (.ref r), some (.int (nI a)), some (.int (nI len)), some (.int (hs_n w len j)), some (.int (nI j)), none, none, none] [] (sh, I, Lg, Rf, nc, ns) Q
  | 0, j, hj => by
    obtain rfl : j = len := by omega
    refine mj_blk rfl ?_
    simp +decide only [mjs_0, mjs_1, mjs_2, mjs_3, mjs_ble, true_and, Bool.false_eq_true, if_false, if_true, Nat.reduceAdd, Nat.reduceSub, Nat.reduceLeDiff]
    exact ⟨fun _ => hk, fun q => absurd (nI_le (Nat.le_refl j) (by omega)) q⟩
  | m + 1, j, hj => by
    have e : (nI (a + j)).toNatClampNeg = a + j := nI_clamp (by omega)
    refine mj_blk rfl ?_
    simp +decide only [mjs_0, mjs_1, mjs_2, mjs_3, mjs_ble, true_and, Bool.false_eq_true, if_false, if_true, Nat.reduceAdd, Nat.reduceSub, Nat.reduceLeDiff]
    refine ⟨fun q => absurd q (nI_ge (by omega) (by omega)), fun _ => mj_blk rfl ?_⟩
    simp +decide only [mjs_0, mjs_1, mjs_2, mjs_3, mjs_ble, true_and, Bool.false_eq_true, if_false, if_true, Nat.reduceAdd, Nat.reduceSub, Nat.reduceLeDiff, mjs_ar (t := 0) hr, nI_add, nI_1, e, hw j (by omega)]
    exact ⟨nI_in (by omega) hrn, g57_hash hr hrn hal hw hk m (j + 1) (by omega)⟩
theorem g57_same (hC : nm_C sh Rf o l s f n) (hr : sh[r]? = some (1000, rn)) (hrn : rn < 2 ^ 31) (hal : a + len ≤ rn) (hlen : len ≤ 40) (hw : ∀ j, j < len → I r (a + j) = nI (w j) ∧ w j < 65536) {x v : Nat} (hx : x < 1036) (hv : I s x = nI v) (hvb : v + 40 ≤ 40237) (hL : ∀ j, j < len → I l (v + j) = nI (nm x j) ∧ nm x j < 65536) {i bk : Int32}
    (h1 : (∀ j, j < len → nm x j = w j) → mj_rn X (mj_hd []) (mj_call X mj_P (mj_bi X) d) mb_57 142 [some (.ref o), some (.ref r), some (.int (nI a)), some (.int (nI len)), none, some (.int bk), some (.int (nI x)), some (.int i), some (.int (nI len))] [] (sh, I, Lg, Rf, nc, ns) Q)
    (h2 : (∃ j, j < len ∧ nm x j ≠ w j) → mj_rn X (mj_hd []) (mj_call X mj_P (mj_bi X) d) mb_57 142 [some (.ref o), some (.ref r), some (.int (nI a)), some (.int (nI len)), none, some (.int bk), some (.int (nI x)), some (.int i), some (.int (-1))] [] (sh, I, Lg, Rf, nc, ns) Q) :
    ∀ (m y : Nat), y + m = len → (∀ j, j < y → nm x j = w j) → mj_rn X (mj_hd []) (mj_call X mj_P (mj_bi X) d) mb_57 94 [some (.ref o), some (.ref r), some (.int (nI a)), some (.int (nI len)), none, some (.int bk), some (.int (nI x)), some (.int i), some (.int (nI y))] [] (sh, I, Lg, Rf, nc, ns) Q := by
  obtain ⟨c1, c2, c3, c4, c5, r0, r1, r2, r4⟩ := hC
  intro m
  induction m with
  | zero =>
    intro y hy hs
    obtain rfl : y = len := by omega
    refine mj_blk rfl ?_
    simp +decide only [mjs_0, mjs_1, mjs_2, mjs_3, mjs_ble, true_and, Bool.false_eq_true, if_false, if_true, Nat.reduceAdd, Nat.reduceSub, Nat.reduceLeDiff]
    refine ⟨fun q => absurd q (nI_pos (by omega)), fun _ => mj_blk rfl ?_⟩
    simp +decide only [mjs_0, mjs_1, mjs_2, mjs_3, mjs_ble, true_and, Bool.false_eq_true, if_false, if_true, Nat.reduceAdd, Nat.reduceSub, Nat.reduceLeDiff]
    exact ⟨fun _ => h1 hs, fun q => absurd (nI_le (Nat.le_refl y) (by omega)) q⟩
  | succ m ih =>
    intro y hy hs
    have e1 : (nI x).toNatClampNeg = x := nI_clamp (by omega)
    have e2 : (nI (v + y)).toNatClampNeg = v + y := nI_clamp (by omega)
    have e3 : (nI (a + y)).toNatClampNeg = a + y := nI_clamp (by omega)
    have w1 := hL y (by omega)
    have w2 := hw y (by omega)
    refine mj_blk rfl ?_
    simp +decide only [mjs_0, mjs_1, mjs_2, mjs_3, mjs_ble, true_and, Bool.false_eq_true, if_false, if_true, Nat.reduceAdd, Nat.reduceSub, Nat.reduceLeDiff]
    refine ⟨fun q => absurd q (nI_pos (by omega)), fun _ => mj_blk rfl ?_⟩
    simp +decide only [mjs_0, mjs_1, mjs_2, mjs_3, mjs_ble, true_and, Bool.false_eq_true, if_false, if_true, Nat.reduceAdd, Nat.reduceSub, Nat.reduceLeDiff]
    refine ⟨fun q => absurd q (nI_ge (by omega) (by omega)), fun _ => mj_blk rfl ?_⟩
    simp +decide only [mjs_0, mjs_1, mjs_2, mjs_3, mjs_ble, true_and, Bool.false_eq_true, if_false, if_true, Nat.reduceAdd, Nat.reduceSub, Nat.reduceLeDiff, mjs_ob c1, r0, r1, mjs_ar (t := 0) c3, mjs_ar (t := 2) c2, mjs_ar (t := 0) hr, e1, hv, nI_add, e2, e3, w1.1, w2.1]
    refine ⟨nI_in (by omega) (by omega), nI_in (by omega) (by omega), nI_in (by omega) hrn, fun q => mj_blk rfl ?_, fun q => mj_blk rfl ?_⟩
    · simp +decide only [mjs_0, mjs_1, mjs_2, mjs_3, mjs_ble, true_and, Bool.false_eq_true, if_false, if_true, Nat.reduceAdd, Nat.reduceSub, Nat.reduceLeDiff]
      refine mj_blk rfl ?_
      simp +decide only [mjs_0, mjs_1, mjs_2, mjs_3, mjs_ble, true_and, Bool.false_eq_true, if_false, if_true, Nat.reduceAdd, Nat.reduceSub, Nat.reduceLeDiff]
      refine mj_blk rfl ?_
      simp +decide only [mjs_0, mjs_1, mjs_2, mjs_3, mjs_ble, true_and, Bool.false_eq_true, if_false, if_true, Nat.reduceAdd, Nat.reduceSub, Nat.reduceLeDiff]
      exact ⟨fun _ => h2 ⟨y, by omega, fun e => q (by rw [e])⟩, fun q => q.elim⟩
    · simp +decide only [mjs_0, mjs_1, mjs_2, mjs_3, mjs_ble, true_and, Bool.false_eq_true, if_false, if_true, Nat.reduceAdd, Nat.reduceSub, Nat.reduceLeDiff, nI_1]
      refine mj_blk rfl ?_
      simp +decide only [mjs_0, mjs_1, mjs_2, mjs_3, mjs_ble, true_and, Bool.false_eq_true, if_false, if_true, Nat.reduceAdd, Nat.reduceSub, Nat.reduceLeDiff]
      refine ih (y + 1) (by omega) (fun j hj => ?_)
      by_cases hjy : j = y
      · rw [hjy]
        exact (nI_eq (by omega) (by omega)).mp (Decidable.not_not.mp q)
      · exact hs j (by omega)
/-- a name that is that row -/
def fd_is (nm : Nat → Nat → Nat) (ln w : Nat → Nat) (len i : Nat) : Prop := ln i = len ∧ ∀ j, j < len → nm i j = w j
theorem fd_is_b {i : Nat} (h : fd_is nm ln w len i) : hs_b (nm i) (ln i) = hs_b w len := by
  unfold hs_b
  rw [h.1, hs_eq len h.2]
theorem g57_chain (hC : nm_C sh Rf o l s f n) (hr : sh[r]? = some (1000, rn)) (hrn : rn < 2 ^ 31) (hal : a + len ≤ rn) (hlen : len ≤ 40) (hw : ∀ j, j < len → I r (a + j) = nI (w j) ∧ w j < 65536) (hI : fd_C I o l s f n nm ln st k) (hH : fd_H I f n nm ln k) {bk : Int32}
    (h166 : (∀ i, i < k → ¬ fd_is nm ln w len i) → ∀ x i : Int32, mj_rn X (mj_hd []) (mj_call X mj_P (mj_bi X) d) mb_57 166 [some (.ref o), some (.ref r), some (.int (nI a)), some (.int (nI len)), none, some (.int bk), some (.int x), some (.int i), none] [] (sh, I, Lg, Rf, nc, ns) Q)
    (hret : ∀ x : Nat, x < k → fd_is nm ln w len x → Q (.inl (some (.int (nI x)))) (sh, I, Lg, Rf, nc, ns)) :
    ∀ (u i : Nat) (x : Int32) (z : Option Value), i + u ≤ k → fd_M nm ln (hs_b w len) u x → (∀ i', u ≤ i' → i' < k → ¬ fd_is nm ln w len i') → mj_rn X (mj_hd []) (mj_call X mj_P (mj_bi X) d) mb_57 52 [some (.ref o), some (.ref r), some (.int (nI a)), some (.int (nI len)), z, some (.int bk), some (.int x), some (.int (nI i)), none] [] (sh, I, Lg, Rf, nc, ns) Q := by
  have hC' := hC
  obtain ⟨c1, c2, c3, c4, c5, r0, r1, r2, r4⟩ := hC
  obtain ⟨i1, i2, i3, i4, i5, i6⟩ := hI
  intro u
  induction u using Nat.strongRecOn with
  | ind u ih =>
    intro i x z hiu hM hno
    have hnone : (∀ i', i' < u → hs_b (nm i') (ln i') ≠ hs_b w len) → ∀ i', i' < k → ¬ fd_is nm ln w len i' := fun hh i' hi' hf => by
      by_cases hu : i' < u
      · exact hh i' hu (fd_is_b hf)
      · exact hno i' (by omega) hi' hf
    refine mj_blk rfl ?_
    simp +decide only [mjs_0, mjs_1, mjs_2, mjs_3, mjs_ble, true_and, Bool.false_eq_true, if_false, if_true, Nat.reduceAdd, Nat.reduceSub, Nat.reduceLeDiff, mjs_ob c1, i1]
    refine ⟨fun q => h166 (hnone (fun i' hi' => ?_)) x _, fun q => mj_blk rfl ?_⟩
    · have := (nI_leI (by omega) (by omega)).mp q
      omega
    simp +decide only [mjs_0, mjs_1, mjs_2, mjs_3, mjs_ble, true_and, Bool.false_eq_true, if_false, if_true, Nat.reduceAdd, Nat.reduceSub, Nat.reduceLeDiff]
    rcases hM with ⟨rfl, hM⟩ | ⟨y, hy, rfl, hb, hM⟩
    · refine ⟨fun _ => h166 (hnone hM) _ _, fun q => absurd (by decide) q⟩
    refine ⟨fun q => absurd q (nI_pos (by omega)), fun q => mj_blk rfl ?_⟩
    have hv0 := i3 y (by omega)
    have hv1 := i3 (y + 1) (by omega)
    have hst := i4 y (by omega)
    have b0 := i5 y (by omega)
    have e0 : (nI y).toNatClampNeg = y := nI_clamp (by omega)
    have e1 : (nI (y + 1)).toNatClampNeg = y + 1 := nI_clamp (by omega)
    have esub : nI (st (y + 1)) - nI (st y) = nI (ln y) := by
      rw [pk_sub (by omega), show st (y + 1) - st y = ln y by omega]
    have K151 : ¬ fd_is nm ln w len y → ∀ c : Int32, mj_rn X (mj_hd []) (mj_call X mj_P (mj_bi X) d) mb_57 151 [some (.ref o), some (.ref r), some (.int (nI a)), some (.int (nI len)), none, some (.int bk), some (.int (nI y)), some (.int (nI i)), some (.int c)] [] (sh, I, Lg, Rf, nc, ns) Q := by
      intro hn c
      refine mj_blk rfl ?_
      simp +decide only [mjs_0, mjs_1, mjs_2, mjs_3, mjs_ble, true_and, Bool.false_eq_true, if_false, if_true, Nat.reduceAdd, Nat.reduceSub, Nat.reduceLeDiff, mjs_ob c1, r4, mjs_ar (t := 0) c5, e0, nI_1]
      refine ⟨nI_in (by omega) (by omega), ih y hy (i + 1) _ _ (by omega) ?_ (fun i' h1 h2 hf => ?_)⟩
      · have := hH.2 y (by omega)
        rw [hb] at this
        exact this
      · by_cases he : i' = y
        · rw [he] at hf
          exact hn hf
        · by_cases hu : i' < u
          · exact hM i' (by omega) hu (fd_is_b hf)
          · exact hno i' (by omega) h2 hf
    simp +decide only [mjs_0, mjs_1, mjs_2, mjs_3, mjs_ble, true_and, Bool.false_eq_true, if_false, if_true, Nat.reduceAdd, Nat.reduceSub, Nat.reduceLeDiff, mjs_ob c1, r1, mjs_ar (t := 0) c3, nI_1, e0, e1, hv0, hv1, esub]
    refine ⟨nI_in (by omega) (by omega), nI_in (by omega) (by omega), fun q => mj_blk rfl ?_, fun q => mj_blk rfl ?_⟩
    · simp +decide only [mjs_0, mjs_1, mjs_2, mjs_3, mjs_ble, true_and, Bool.false_eq_true, if_false, if_true, Nat.reduceAdd, Nat.reduceSub, Nat.reduceLeDiff]
      refine mj_blk rfl ?_
      simp +decide only [mjs_0, mjs_1, mjs_2, mjs_3, mjs_ble, true_and, Bool.false_eq_true, if_false, if_true, Nat.reduceAdd, Nat.reduceSub, Nat.reduceLeDiff]
      refine mj_blk rfl ?_
      simp +decide only [mjs_0, mjs_1, mjs_2, mjs_3, mjs_ble, true_and, Bool.false_eq_true, if_false, if_true, Nat.reduceAdd, Nat.reduceSub, Nat.reduceLeDiff]
      refine ⟨fun _ => mj_blk rfl ?_, fun q => q.elim⟩
      simp +decide only [mjs_0, mjs_1, mjs_2, mjs_3, mjs_ble, true_and, Bool.false_eq_true, if_false, if_true, Nat.reduceAdd, Nat.reduceSub, Nat.reduceLeDiff]
      refine ⟨fun _ => K151 (fun hf => q (by rw [hf.1])) _, fun q' => absurd (Decidable.not_not.mp q') (nm_len_ne (by omega))⟩
    · have hln : ln y = len := (nI_eq (by omega) (by omega)).mp (Decidable.not_not.mp q)
      simp +decide only [mjs_0, mjs_1, mjs_2, mjs_3, mjs_ble, true_and, Bool.false_eq_true, if_false, if_true, Nat.reduceAdd, Nat.reduceSub, Nat.reduceLeDiff]
      refine mj_blk rfl ?_
      simp +decide only [mjs_0, mjs_1, mjs_2, mjs_3, mjs_ble, true_and, Bool.false_eq_true, if_false, if_true, Nat.reduceAdd, Nat.reduceSub, Nat.reduceLeDiff]
      refine g57_same (nm := nm) (w := w) (x := y) (v := st y) hC' hr hrn hal hlen hw (by omega) hv0 (by omega) (fun j hj => i6 y j (by omega) (by omega)) (fun hs => ?_) (fun hd => ?_) len 0 (Nat.zero_add _) (fun j hj => absurd hj (Nat.not_lt_zero j))
      · refine mj_blk rfl ?_
        simp +decide only [mjs_0, mjs_1, mjs_2, mjs_3, mjs_ble, true_and, Bool.false_eq_true, if_false, if_true, Nat.reduceAdd, Nat.reduceSub, Nat.reduceLeDiff]
        refine ⟨fun q => q.elim, fun _ => mj_blk rfl ?_⟩
        simp +decide only [mjs_0, mjs_1, mjs_2, mjs_3, mjs_ble, true_and, Bool.false_eq_true, if_false, if_true, Nat.reduceAdd, Nat.reduceSub, Nat.reduceLeDiff]
        exact hret y (by omega) ⟨hln, hs⟩
      · refine mj_blk rfl ?_
        simp +decide only [mjs_0, mjs_1, mjs_2, mjs_3, mjs_ble, true_and, Bool.false_eq_true, if_false, if_true, Nat.reduceAdd, Nat.reduceSub, Nat.reduceLeDiff]
        refine ⟨fun _ => K151 (fun hf => ?_) _, fun q' => absurd (Decidable.not_not.mp q') (nm_len_ne (by omega))⟩
        obtain ⟨j, hj, hne⟩ := hd
        exact hne (hf.2 j hj)
end MJFD
