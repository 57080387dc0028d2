/-! NAMES: find, exact: a new name -/
theorem vn_char {q : Nat} (hq : q < 65536) : vp_nar .char ((nI q).toUInt32 % 65536).toInt32 = nI q := by
  rw [pk_char, pk_tn (by omega), Nat.mod_eq_of_lt hq]
  unfold vp_nar
  rw [(pk_charN hq).1]
section MJFD2
variable {X : mj_X} {d : Nat} {Q : mj_Q} {sh : List (Nat × Nat)} {I : Nat → Nat → Int32} {Lg : Nat → Nat → Int64} {Rf : Nat → Nat → Option Nat} {nc ns o l s f n r rn a len k : Nat} {nm : Nat → Nat → Nat} {ln st w : Nat → Nat}
theorem g57_copy (hC : nm_C sh Rf o l s f n) (hr : sh[r]? = some (1000, rn)) (hrl : r ≠ l) (hrn : rn < 2 ^ 31) (hal : a + len ≤ rn) (hw : ∀ j, j < len → I r (a + j) = nI (w j) ∧ w j < 65536) {v : Nat} (hv : v + len ≤ 40237) {bk : Int32}
    (hk : ∀ I' : Nat → Nat → Int32, (∀ b q, b ≠ l → I' b q = I b q) → (∀ j, j < len → I' l (v + j) = nI (w j)) → (∀ q, q < v → I' l q = I l q) → mj_rn X (mj_hd []) (mj_call X mj_P (mj_bi X) d) mb_57 221 [some (.ref o), some (.ref r), some (.int (nI a)), some (.int (nI len)), none, some (.int bk), none, some (.int (nI v)), some (.int (nI len))] [] (sh, I', Lg, Rf, nc, ns) Q) :
    ∀ (m j : Nat) (I' : Nat → Nat → Int32), (∀ b q, b ≠ l → I' b q = I b q) → (∀ i, i < j → I' l (v + i) = nI (w i)) → (∀ q, q < v → I' l q = I l q) → j + m = len → mj_rn X (mj_hd []) (mj_call X mj_P (mj_bi X) d) mb_57 192 [some (.ref o), some (.ref r), some (.int (nI a)), some (.int (nI len)), none, some (.int bk), none, some (.int (nI v)), some (.int (nI j))] [] (sh, I', Lg, Rf, nc, ns) Q := by
  obtain ⟨c1, c2, c3, c4, c5, r0, r1, r2, r4⟩ := hC
  intro m
  induction m with
  | zero =>
    intro j I' h1 h2 h3 hj
    obtain rfl : j = len := by omega
    refine mj_blk rfl ?_
    simp +decide only [mjs_0, mjs_1, mjs_2, mjs_3, mjs_ble, true_and, Bool.false_eq_true, if_false, if_true, Nat.reduceAdd, Nat.reduceSub, Nat.reduceLeDiff]
    exact ⟨fun _ => hk I' h1 h2 h3, fun q => absurd (nI_le (Nat.le_refl j) (by omega)) q⟩
  | succ m ih =>
    intro j I' h1 h2 h3 hj
    have e1 : (nI (v + j)).toNatClampNeg = v + j := nI_clamp (by omega)
    have e2 : (nI (a + j)).toNatClampNeg = a + j := nI_clamp (by omega)
    have hwj := hw j (by omega)
    have g : I' r (a + j) = nI (w j) := (h1 r _ hrl).trans hwj.1
    refine mj_blk rfl ?_
    simp +decide only [mjs_0, mjs_1, mjs_2, mjs_3, mjs_ble, true_and, Bool.false_eq_true, if_false, if_true, Nat.reduceAdd, Nat.reduceSub, Nat.reduceLeDiff]
    refine ⟨fun q => absurd q (nI_ge (by omega) (by omega)), fun _ => mj_blk rfl ?_⟩
    simp +decide only [mjs_0, mjs_1, mjs_2, mjs_3, mjs_ble, true_and, Bool.false_eq_true, if_false, if_true, Nat.reduceAdd, Nat.reduceSub, Nat.reduceLeDiff, mjs_ob c1, r0, mjs_ar (t := 2) c2, mjs_ar (t := 0) hr, nI_add, nI_1, e1, e2, g, vn_char hwj.2]
    refine ⟨nI_in (by omega) hrn, nI_in (by omega) (by omega), ih (j + 1) _ (fun b q hb => ?_) (fun i hi => ?_) (fun q hq => ?_) (by omega)⟩
    · rw [mjs_up_c hb]
      exact h1 b q hb
    · by_cases hij : i = j
      · rw [hij, mjs_up_at]
      · rw [mjs_up_ne (Or.inr (by omega))]
        exact h2 i (by omega)
    · rw [mjs_up_ne (Or.inr (by omega))]
      exact h3 q hq
theorem fd_M_up {b x : Nat} {y : Int32} {g : Nat → Nat} {len' : Nat} (hx : ∀ i, i < x → i < k) (h : fd_M nm ln b x y) : fd_M (ud nm k g) (ud ln k len') b x y := by
  rcases h with ⟨h1, h2⟩ | ⟨i, h1, h2, h3, h4⟩
  · refine Or.inl ⟨h1, fun i hi => ?_⟩
    have := hx i hi
    rw [ud_ne (by omega), ud_ne (by omega)]
    exact h2 i hi
  · have := hx i h1
    refine Or.inr ⟨i, h1, h2, by rw [ud_ne (by omega), ud_ne (by omega)]; exact h3, fun i' a1 a2 => ?_⟩
    have := hx i' a2
    rw [ud_ne (by omega), ud_ne (by omega)]
    exact h4 i' a1 a2
/-- find -/
theorem c_57x (hC : nm_C sh Rf o l s f n) (hr : sh[r]? = some (1000, rn)) (hrn : rn < 2 ^ 31) (hal : a + len ≤ rn) (hlen : len ≤ 40) (hw : ∀ j, j < len → I r (a + j) = nI (w j) ∧ w j < 65536) (hI : fd_C I o l s f n nm ln st k) (hH : fd_H I f n nm ln k) (h36 : k < 36 → (k + 1 < 36 → st k + len ≤ 1440) ∧ (36 ≤ k + 1 → st k + len + 40 * (1036 - (k + 1)) ≤ 40237))
    (hQ1 : ∀ x, x < k → fd_is nm ln w len x → Q (.inl (some (.int (nI x)))) (sh, I, Lg, Rf, nc, ns))
    (hQ2 : k = 1036 → (∀ i, i < k → ¬ fd_is nm ln w len i) → Q (.inl (some (.int (-1)))) (sh, I, Lg, Rf, nc, ns))
    (hQ3 : k < 1036 → (∀ i, i < k → ¬ fd_is nm ln w len i) → ∀ I' : Nat → Nat → Int32, fd_C I' o l s f n (ud nm k w) (ud ln k len) (ud st (k + 1) (st k + len)) (k + 1) → fd_H I' f n (ud nm k w) (ud ln k len) (k + 1) → (∀ b q, b ≠ o → b ≠ l → b ≠ s → b ≠ f → b ≠ n → I' b q = I b q) → (∀ q, q ≠ 5 → I' o q = I o q) → Q (.inl (some (.int (nI k)))) (sh, I', Lg, Rf, nc, ns)) :
    mj_call X mj_P (mj_bi X) (d + 1) 57 [.ref o, .ref r, .int (nI a), .int (nI len)] (sh, I, Lg, Rf, nc, ns) Q := by
  have hC' := hC
  have hI0 := hI
  obtain ⟨c1, c2, c3, c4, c5, r0, r1, r2, r4⟩ := hC
  obtain ⟨i1, i2, i3, i4, i5, i6⟩ := hI
  have n1 : o ≠ l := nm_ne c1 c2 (by decide)
  have n2 : o ≠ s := nm_ne c1 c3 (by decide)
  have n3 : o ≠ f := nm_ne c1 c4 (by decide)
  have n4 : o ≠ n := nm_ne c1 c5 (by decide)
  have n5 : f ≠ l := nm_ne c4 c2 (by decide)
  have n6 : f ≠ s := nm_ne c4 c3 (by decide)
  have n7 : f ≠ n := nm_ne c4 c5 (by decide)
  have n8 : n ≠ l := nm_ne c5 c2 (by decide)
  have n9 : n ≠ s := nm_ne c5 c3 (by decide)
  have n10 : s ≠ l := nm_ne c3 c2 (by decide)
  have n11 : r ≠ l := nm_ne hr c2 (fun e => absurd (show (1000 : Nat) = 1002 from congrArg Prod.fst e) (by decide))
  refine mj_enter (z := (9, [], mb_57)) (by decide) rfl rfl ?_
  refine mj_blk rfl ?_
  simp +decide only [mjs_0, mjs_1, mjs_2, mjs_3, mjs_ble, true_and, Bool.false_eq_true, if_false, if_true, Nat.reduceAdd, Nat.reduceSub, Nat.reduceLeDiff]
  refine g57_hash (w := w) hr hrn hal (fun j hj => (hw j hj).1) ?_ len 0 (Nat.zero_add _)
  refine mj_blk rfl ?_
  have hbl : hs_b w len < 256 := hs_lt
  have eb : hs_n w len len &&& 255 = nI (hs_b w len) := pk_and (hs_n w len len) (m := 255) 8 (by decide)
  have e0 : (nI (hs_b w len)).toNatClampNeg = hs_b w len := nI_clamp (by omega)
  simp +decide only [mjs_0, mjs_1, mjs_2, mjs_3, mjs_ble, true_and, Bool.false_eq_true, if_false, if_true, Nat.reduceAdd, Nat.reduceSub, Nat.reduceLeDiff, eb, mjs_ob c1, r2, mjs_ar (t := 0) c4, e0]
  refine ⟨nI_in (by omega) (by omega), ?_⟩
  refine g57_chain hC' hr hrn hal hlen hw hI0 hH (fun hno x i => ?_) hQ1 k 0 _ _ (by omega) (hH.1 _ hbl) (fun i' h1 h2 => absurd h1 (by omega))
  refine mj_blk rfl ?_
  simp +decide only [mjs_0, mjs_1, mjs_2, mjs_3, mjs_ble, true_and, Bool.false_eq_true, if_false, if_true, Nat.reduceAdd, Nat.reduceSub, Nat.reduceLeDiff, mjs_ob c1, i1]
  refine ⟨fun q => mj_blk rfl ?_, fun q => mj_blk rfl ?_⟩
  · have hk : k < 1036 := (nI_ltI (by omega) (by omega)).mp (show nI k < nI 1036 from q)
    have hv := i3 k (Nat.le_refl _)
    have b0 := i5 k (Nat.le_refl _)
    have ek : (nI k).toNatClampNeg = k := nI_clamp (by omega)
    have ek1 : (nI (k + 1)).toNatClampNeg = k + 1 := nI_clamp (by omega)
    simp +decide only [mjs_0, mjs_1, mjs_2, mjs_3, mjs_ble, true_and, Bool.false_eq_true, if_false, if_true, Nat.reduceAdd, Nat.reduceSub, Nat.reduceLeDiff, mjs_ob c1, r1, mjs_ar (t := 0) c3, i1, ek, hv]
    refine ⟨nI_in (by omega) (by omega), ?_⟩
    refine g57_copy (w := w) hC' hr n11 hrn hal hw (by omega) (fun I1 h1 h2 h3 => ?_) len 0 I (fun _ _ _ => rfl) (fun i hi => absurd hi (Nat.not_lt_zero i)) (fun _ _ => rfl) (Nat.zero_add _)
    refine mj_blk rfl ?_
    have a1 : I1 o 5 = nI k := (h1 o 5 n1).trans i1
    have u1 : ∀ (J : Nat → Nat → Int32) (j : Nat) (w : Int32) (q : Nat), mj_up J s j w o q = J o q := fun J j w q => mjs_up_ne (Or.inl n2)
    have u2 : ∀ (J : Nat → Nat → Int32) (j : Nat) (w : Int32) (q : Nat), mj_up J s j w f q = J f q := fun J j w q => mjs_up_ne (Or.inl n6)
    have u3 : ∀ (J : Nat → Nat → Int32) (j : Nat) (w : Int32) (q : Nat), mj_up J n j w o q = J o q := fun J j w q => mjs_up_ne (Or.inl n4)
    have u4 : ∀ (J : Nat → Nat → Int32) (j : Nat) (w : Int32) (q : Nat), mj_up J f j w o q = J o q := fun J j w q => mjs_up_ne (Or.inl n3)
    simp +decide only [mjs_0, mjs_1, mjs_2, mjs_3, mjs_ble, true_and, Bool.false_eq_true, if_false, if_true, Nat.reduceAdd, Nat.reduceSub, Nat.reduceLeDiff, mjs_ob c1, r1, r2, r4, mjs_ar (t := 0) c3, mjs_ar (t := 0) c4, mjs_ar (t := 0) c5, a1, u1, u2, u3, u4, nI_1, nI_add, ek, ek1, e0, mjs_up_at, nI_pred]
    refine ⟨nI_in (by omega) (by decide), nI_in (by omega) (by decide), nI_in (by omega) (by decide), nI_in (by omega) (by decide), ?_⟩
    refine hQ3 hk hno _ ⟨mjs_up_at, by omega, fun j hj => ?_, fun j hj => ?_, fun j hj => ?_, fun id j hid hj => ?_⟩ ⟨fun b hb => ?_, fun j hj => ?_⟩ (fun b q hb1 hb2 hb3 hb4 hb5 => ?_) (fun q hq => ?_)
    · rw [mjs_up_ne (Or.inl n2.symm), mjs_up_ne (Or.inl n6.symm), mjs_up_ne (Or.inl n9.symm)]
      by_cases hjk : j = k + 1
      · rw [hjk, mjs_up_at, ud_at]
      · rw [mjs_up_ne (Or.inr hjk), h1 s j n10, ud_ne hjk]
        exact i3 j (by omega)
    · by_cases hjk : j = k
      · rw [hjk, ud_at, ud_at, ud_ne (by omega)]
        exact ⟨rfl, hlen⟩
      · rw [ud_ne (by omega), ud_ne (by omega), ud_ne (by omega)]
        exact i4 j (by omega)
    · by_cases hjk : j = k + 1
      · rw [hjk, ud_at]
        by_cases hk36 : k < 36
        · exact h36 hk36
        · exact ⟨fun h => by omega, fun h => by omega⟩
      · rw [ud_ne hjk]
        exact i5 j (by omega)
    · rw [mjs_up_ne (Or.inl n1.symm), mjs_up_ne (Or.inl n5.symm), mjs_up_ne (Or.inl n8.symm), mjs_up_ne (Or.inl n10.symm)]
      by_cases hik : id = k
      · rw [hik, ud_at] at hj
        rw [hik, ud_at, ud_ne (by omega)]
        exact ⟨h2 j hj, (hw j hj).2⟩
      · rw [ud_ne hik] at hj
        rw [ud_ne hik, ud_ne (by omega)]
        have hm : ∀ m' i', i' + m' ≤ k → st i' ≤ st (i' + m') := by
          intro m'
          induction m' with
          | zero => intro i' _; exact Nat.le_refl _
          | succ m' ihm =>
            intro i' hi'
            have := ihm i' (by omega)
            have := (i4 (i' + m') (by omega)).1
            rw [← Nat.add_assoc]
            omega
        have hs1 := (i4 id (by omega)).1
        have hs2 := hm (k - (id + 1)) (id + 1) (by omega)
        rw [show id + 1 + (k - (id + 1)) = k by omega] at hs2
        rw [h3 _ (by omega)]
        exact i6 id j (by omega) hj
    · rw [mjs_up_ne (Or.inl n3.symm)]
      by_cases hjb : b = hs_b w len
      · rw [hjb, mjs_up_at]
        refine Or.inr ⟨k, by omega, rfl, by rw [ud_at, ud_at], fun i' a1 a2 => by omega⟩
      · rw [mjs_up_ne (Or.inr hjb), mjs_up_ne (Or.inl n7), mjs_up_ne (Or.inl n6), h1 f b n5]
        rcases hH.1 b hb with ⟨p1, p2⟩ | ⟨i, p1, p2, p3, p4⟩
        · refine Or.inl ⟨p1, fun i hi => ?_⟩
          by_cases hik : i = k
          · rw [hik, ud_at, ud_at]
            exact fun e => hjb e.symm
          · rw [ud_ne hik, ud_ne hik]
            exact p2 i (by omega)
        · refine Or.inr ⟨i, by omega, p2, by rw [ud_ne (by omega), ud_ne (by omega)]; exact p3, fun i' a1 a2 => ?_⟩
          by_cases hik : i' = k
          · rw [hik, ud_at, ud_at]
            exact fun e => hjb e.symm
          · rw [ud_ne hik, ud_ne hik]
            exact p4 i' a1 (by omega)
    · rw [mjs_up_ne (Or.inl n4.symm), mjs_up_ne (Or.inl n7.symm)]
      by_cases hjk : j = k
      · rw [hjk, mjs_up_at, h1 f _ n5, ud_at, ud_at]
        exact fd_M_up (fun i hi => hi) (hH.1 _ hbl)
      · rw [mjs_up_ne (Or.inr hjk), mjs_up_ne (Or.inl n9), h1 n j n8, ud_ne hjk, ud_ne hjk]
        exact fd_M_up (fun i hi => by omega) (hH.2 j (by omega))
    · rw [mjs_up_ne (Or.inl hb1), mjs_up_ne (Or.inl hb4), mjs_up_ne (Or.inl hb5), mjs_up_ne (Or.inl hb3), h1 b q hb2]
    · rw [mjs_up_ne (Or.inr hq), mjs_up_ne (Or.inl n3), mjs_up_ne (Or.inl n4), mjs_up_ne (Or.inl n2), h1 o q n1]
  · simp +decide only [mjs_0, mjs_1, mjs_2, mjs_3, mjs_ble, true_and, Bool.false_eq_true, if_false, if_true, Nat.reduceAdd, Nat.reduceSub, Nat.reduceLeDiff]
    refine hQ2 ?_ hno
    rcases Nat.lt_or_eq_of_le i2 with h | h
    · exact absurd (show nI k < nI 1036 from nI_lt h (by decide)) q
    · exact h
end MJFD2
