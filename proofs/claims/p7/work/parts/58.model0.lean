/-! THE REFERENCE: names added, all cleared, made -/
def mm_C (sh : List (Nat × Nat)) : Prop := sh[36]? = some (10, 41) ∧ sh[40]? = some (1004, 44000) ∧ sh[41]? = some (1000, 1100) ∧ sh[42]? = some (1000, 41) ∧ sh[45]? = some (1000, 141400) ∧ sh[46]? = some (1000, 25856) ∧ sh[47]? = some (1000, 25856)
def mm_R : List (Nat × Nat × Nat) := [(36, 2, 37), (36, 4, 38), (36, 7, 39), (36, 12, 40), (36, 13, 41), (36, 14, 42), (36, 16, 43), (36, 18, 44), (36, 19, 45), (36, 20, 46), (36, 21, 47), (36, 23, 48), (36, 24, 49), (36, 25, 50), (36, 26, 51), (36, 28, 52), (36, 30, 53), (36, 31, 54), (36, 32, 55), (36, 34, 56), (36, 35, 57)]
def mj_rls : List Int32 → Nat → Bool
  | [], _ => true
  | t :: ts, n => Nat.ble n 40 && mj_rls ts (if t = 32 then 0 else n + 1)
theorem mj_t3l : mj_t3.length = 237 := by decide +kernel
theorem mj_t3r : mj_rls mj_t3 0 = true := by decide +kernel
section MJM0
variable {X : mj_X} {L d nc ns : Nat} {xs : Nat → Int32} {Q : mj_Q} {sh : List (Nat × Nat)} {I : Nat → Nat → Int32} {Lg : Nat → Nat → Int64} {Rf : Nat → Nat → Option Nat}
theorem f109 (hC : mm_C sh) (hR : mj_Rt mm_R Rf) {nm sz : Nat} (hnm : nm < 1000) (hsz : sz ≤ 40) (h11 : I 36 11 = nI nm) (h15 : I 36 15 = nI sz)
    (hk : ∀ I' : Nat → Nat → Int32, (∀ b q, b ≠ 40 → I' b q = I b q) → mj_rn X (mj_hd []) (mj_call X mj_P (mj_bi X) d) mb_109 37 [some (.ref 36), some (.int (nI sz))] [] (sh, I', Lg, Rf, nc, ns) Q) :
    ∀ (m j : Nat) (I' : Nat → Nat → Int32), j + m = sz → (∀ b q, b ≠ 40 → I' b q = I b q) → mj_rn X (mj_hd []) (mj_call X mj_P (mj_bi X) d) mb_109 2 [some (.ref 36), some (.int (nI j))] [] (sh, I', Lg, Rf, nc, ns) Q := by
  obtain ⟨c1, c2, c3, c4, c5, c6, c7⟩ := hC
  have r12 := hR.at (a := 36) (b := 12) (c := 40) (by decide)
  have r14 := hR.at (a := 36) (b := 14) (c := 42) (by decide)
  intro m
  induction m with
  | zero =>
    intro j I' hj h2
    obtain rfl : j = sz := by omega
    have g15 : I' 36 15 = nI j := (h2 36 15 (by decide)).trans h15
    refine mj_blk rfl ?_
    simp +decide only [mjs_0, mjs_1, mjs_2, mjs_3, mjs_ble, true_and, Bool.false_eq_true, if_false, if_true, Nat.reduceAdd, Nat.reduceSub, Nat.reduceLeDiff, mjs_ob c1, g15]
    exact ⟨fun _ => hk I' h2, fun q => absurd (nI_le (Nat.le_refl j) (by omega)) q⟩
  | succ m ih =>
    intro j I' hj h2
    have g15 : I' 36 15 = nI sz := (h2 36 15 (by decide)).trans h15
    have g11 : I' 36 11 = nI nm := (h2 36 11 (by decide)).trans h11
    refine mj_blk rfl ?_
    simp +decide only [mjs_0, mjs_1, mjs_2, mjs_3, mjs_ble, true_and, Bool.false_eq_true, if_false, if_true, Nat.reduceAdd, Nat.reduceSub, Nat.reduceLeDiff, mjs_ob c1, g15]
    refine ⟨fun q => absurd q (nI_ge (by omega) (by omega)), fun _ => mj_blk rfl ?_⟩
    have e0 : (40 : Int32) * nI nm = nI (40 * nm) := pk_mul 40 nm
    simp +decide only [mjs_0, mjs_1, mjs_2, mjs_3, mjs_ble, true_and, Bool.false_eq_true, if_false, if_true, Nat.reduceAdd, Nat.reduceSub, Nat.reduceLeDiff, mjs_ob c1, g11, r12, r14, e0, mjs_ar (t := 0) c4, mjs_ar (t := 4) c2, nI_add, nI_1]
    refine ⟨nI_in (by omega) (by decide), nI_in (by omega) (by decide), ih (j + 1) _ (by omega) (fun b q hb => ?_)⟩
    rw [mjs_up_c hb]
    exact h2 b q hb
theorem c_109 (hC : mm_C sh) (hR : mj_Rt mm_R Rf) {nm sz : Nat} (hnm : nm < 1000) (hsz : sz ≤ 40) (h11 : I 36 11 = nI nm) (h15 : I 36 15 = nI sz)
    (hQ : ∀ I' : Nat → Nat → Int32, (∀ b q, b ≠ 36 → b ≠ 40 → b ≠ 41 → I' b q = I b q) → (∀ q, q ≠ 11 → I' 36 q = I 36 q) → I' 36 11 = nI (nm + 1) → Q (.inl (some (.int (nI nm)))) (sh, I', Lg, Rf, nc, ns)) :
    mj_call X mj_P (mj_bi X) (d + 1) 109 [.ref 36] (sh, I, Lg, Rf, nc, ns) Q := by
  have hC' := hC
  obtain ⟨c1, c2, c3, c4, c5, c6, c7⟩ := hC
  have r13 := hR.at (a := 36) (b := 13) (c := 41) (by decide)
  refine mj_enter (z := (2, [], mb_109)) (by decide) rfl rfl ?_
  refine mj_blk rfl ?_
  simp +decide only [mjs_0, mjs_1, mjs_2, mjs_3, mjs_ble, true_and, Bool.false_eq_true, if_false, if_true, Nat.reduceAdd, Nat.reduceSub, Nat.reduceLeDiff]
  refine f109 hC' hR hnm hsz h11 h15 (fun I1 h1 => ?_) sz 0 I (Nat.zero_add _) (fun _ _ _ => rfl)
  have g15 : I1 36 15 = nI sz := (h1 36 15 (by decide)).trans h15
  have g11 : I1 36 11 = nI nm := (h1 36 11 (by decide)).trans h11
  have e0 : (nI nm).toNatClampNeg = nm := nI_clamp (by omega)
  have u1 : ∀ (J : Nat → Nat → Int32) (j : Nat) (w : Int32) (q : Nat), mj_up J 41 j w 36 q = J 36 q := fun J j w q => mjs_up_c (by decide)
  refine mj_blk rfl ?_
  simp +decide only [mjs_0, mjs_1, mjs_2, mjs_3, mjs_ble, true_and, Bool.false_eq_true, if_false, if_true, Nat.reduceAdd, Nat.reduceSub, Nat.reduceLeDiff, mjs_ob c1, g11, g15, r13, mjs_ar (t := 0) c3, u1, nI_1, mjs_up_at, nI_pred]
  refine ⟨nI_in (by omega) (by decide), hQ _ (fun b q hb1 hb2 hb3 => ?_) (fun q hq => ?_) mjs_up_at⟩
  · rw [mjs_up_c hb1, mjs_up_c hb3, h1 b q hb2]
  · rw [mjs_up_ne (Or.inr hq), mjs_up_c (by decide), h1 36 q (by decide)]
end MJM0
