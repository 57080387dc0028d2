/-! THE LAW, for one call on a fresh object -/
section MJLAW1
variable {xs : Nat → Int32} {I : Nat → Nat → Int32} {Lg : Nat → Nat → Int64} {Rf : Nat → Nat → Option Nat} {nc ns d : Nat}
def q1_I (I : Nat → Nat → Int32) : Prop := (∀ b q, b < 36 → mz b → I b q = 0) ∧ (∀ q, q ∈ mm_cf → I 36 q = 0) ∧ I 36 1 = 0 ∧ ∀ q, q < 256 → I 46 q = 0
theorem l1_end {w5 w6 : Option Value} : mj_rn (mj_X0 4 xs) (mj_hd []) (mj_call (mj_X0 4 xs) mj_P (mj_bi (mj_X0 4 xs)) d) mb_196 339 [some (.ref 900000), some (.ref 0), some (.ref 36), some (.ref 58), some (.int 0), w5, w6] [] (sh59, I, Lg, Rf, nc, ns) (fun o _ => o = .inl (some (.int 1))) := by
  have e : Int32.ofNat (mj_X0 4 xs).1.1 = 4 := by show Int32.ofNat 4 = 4; decide
  refine mj_blk rfl ?_
  simp +decide only [mjs_0, mjs_1, mjs_2, mjs_3, mjs_ble, true_and, Bool.false_eq_true, if_false, if_true, Nat.reduceAdd, Nat.reduceSub, Nat.reduceLeDiff]
  refine mj_blk rfl ?_
  simp +decide only [mjs_0, mjs_1, mjs_2, mjs_3, mjs_ble, true_and, Bool.false_eq_true, if_false, if_true, Nat.reduceAdd, Nat.reduceSub, Nat.reduceLeDiff, e]
  refine ⟨fun _ => mj_blk rfl ?_, fun q => q.elim⟩
  simp +decide only [mjs_0, mjs_1, mjs_2, mjs_3, mjs_ble, true_and, Bool.false_eq_true, if_false, if_true, Nat.reduceAdd, Nat.reduceSub, Nat.reduceLeDiff]
theorem l1_one (hR : mj_Rt mp_R Rf) (hM : mj_Rt mm_R Rf) (hq : q1_I I) (hr : nc + 1 ≤ 600002 ∧ ns + 6 ≤ 7302231) : mj_rn (mj_X0 4 xs) (mj_hd []) (mj_call (mj_X0 4 xs) mj_P (mj_bi (mj_X0 4 xs)) (d + 6)) mb_196 32 [some (.ref 900000), some (.ref 0), some (.ref 36), some (.ref 58), some (.int 0), none, none] [] (sh59, I, Lg, Rf, nc, ns) (fun o _ => o = .inl (some (.int 1))) := by
  obtain ⟨z1, z2, z3, z4⟩ := hq
  have v0 : vp_in 0 (mj_X0 4 xs).1.1 := by show vp_in 0 4; unfold vp_in; decide
  have v1 : vp_in (0 + 1) (mj_X0 4 xs).1.1 := by show vp_in (0 + 1) 4; unfold vp_in; decide
  have v2 : vp_in (0 + 2) (mj_X0 4 xs).1.1 := by show vp_in (0 + 2) 4; unfold vp_in; decide
  have v3 : vp_in (0 + 3) (mj_X0 4 xs).1.1 := by show vp_in (0 + 3) 4; unfold vp_in; decide
  have y17 : I 17 1 = 0 := z1 17 1 (by decide) (by unfold mz; decide)
  have y9 : I 9 8 = 0 := z1 9 8 (by decide) (by unfold mz; decide)
  have y34 : I 34 1 = 0 := z1 34 1 (by decide) (by unfold mz; decide)
  have y1 : I 1 1 = 0 := z1 1 1 (by decide) (by unfold mz; decide)
  refine mj_blk rfl ?_
  simp +decide only [mjs_0, mjs_1, mjs_2, mjs_3, mjs_ble, true_and, Bool.false_eq_true, if_false, if_true, Nat.reduceAdd, Nat.reduceSub, Nat.reduceLeDiff, v0]
  refine ⟨fun _ => mj_blk rfl ?_, fun _ => ⟨fun _ => mj_blk rfl ?_, fun _ => ⟨fun _ => mj_blk rfl ?_, fun _ => ⟨fun _ => mj_blk rfl ?_, fun _ => ⟨fun _ => mj_blk rfl ?_, fun _ => ⟨fun _ => mj_blk rfl ?_, fun _ => l1_end⟩⟩⟩⟩⟩⟩
  · simp +decide only [mjs_0, mjs_1, mjs_2, mjs_3, mjs_ble, true_and, Bool.false_eq_true, if_false, if_true, Nat.reduceAdd, Nat.reduceSub, Nat.reduceLeDiff, v1, v2, v3, mjs_rc s59_0]
    refine c_1 hR y17 (fun hn => ?_) (fun k I' k1 k8 hk hf => ?_)
    · simp +decide only [mjs_0, mjs_1, mjs_2, mjs_3, mjs_ble, true_and, Bool.false_eq_true, if_false, if_true, Nat.reduceAdd, Nat.reduceSub, Nat.reduceLeDiff, v1, v2, v3, mjs_rc s59_36]
      refine c_105e hM z3 (fun _ I2 => ?_) (fun h => absurd hn h)
      simp +decide only [mjs_0, mjs_1, mjs_2, mjs_3, mjs_ble, true_and, Bool.false_eq_true, if_false, if_true, Nat.reduceAdd, Nat.reduceSub, Nat.reduceLeDiff]
      exact ⟨fun _ => l1_end, fun q => q.elim⟩
    · simp +decide only [mjs_0, mjs_1, mjs_2, mjs_3, mjs_ble, true_and, Bool.false_eq_true, if_false, if_true, Nat.reduceAdd, Nat.reduceSub, Nat.reduceLeDiff, v1, v2, v3, mjs_rc s59_36]
      refine c_105e hM (by rw [hf 36 1 (by decide) (by decide)]; exact z3) (fun h => ?_) (fun _ I2 => ?_)
      · rw [hk] at h
        rcases h with h | h
        · exact absurd ((nI_ltI (a := k) (b := 1) (by omega) (by decide)).mp h) (by omega)
        · exact absurd ((nI_ltI (a := 8) (b := k) (by decide) (by omega)).mp h) (by omega)
      · simp +decide only [mjs_0, mjs_1, mjs_2, mjs_3, mjs_ble, true_and, Bool.false_eq_true, if_false, if_true, Nat.reduceAdd, Nat.reduceSub, Nat.reduceLeDiff]
        exact ⟨fun _ => l1_end, fun q => q.elim⟩
  · simp +decide only [mjs_0, mjs_1, mjs_2, mjs_3, mjs_ble, true_and, Bool.false_eq_true, if_false, if_true, Nat.reduceAdd, Nat.reduceSub, Nat.reduceLeDiff, v1]
    refine c_193e hR y17 y9 hr (fun ht => ?_) (fun I' ht ht' hf => ?_)
    · simp +decide only [mjs_0, mjs_1, mjs_2, mjs_3, mjs_ble, true_and, Bool.false_eq_true, if_false, if_true, Nat.reduceAdd, Nat.reduceSub, Nat.reduceLeDiff, v1, mjs_rc s59_36]
      refine c_178e hM z3 (fun _ I2 h0 => ?_) (fun a b => ht.elim (fun h => absurd h a) (fun h => absurd b h))
      simp +decide only [mjs_0, mjs_1, mjs_2, mjs_3, mjs_ble, true_and, Bool.false_eq_true, if_false, if_true, Nat.reduceAdd, Nat.reduceSub, Nat.reduceLeDiff, mjs_rc s59_36]
      refine c_104 ?_
      simp +decide only [mjs_0, mjs_1, mjs_2, mjs_3, mjs_ble, true_and, Bool.false_eq_true, if_false, if_true, Nat.reduceAdd, Nat.reduceSub, Nat.reduceLeDiff, h0]
      refine ⟨fun _ => mj_blk rfl ?_, fun q => q.elim⟩
      simp +decide only [mjs_0, mjs_1, mjs_2, mjs_3, mjs_ble, true_and, Bool.false_eq_true, if_false, if_true, Nat.reduceAdd, Nat.reduceSub, Nat.reduceLeDiff]
      refine ⟨fun _ => mj_blk rfl ?_, fun q => q.elim⟩
      simp +decide only [mjs_0, mjs_1, mjs_2, mjs_3, mjs_ble, true_and, Bool.false_eq_true, if_false, if_true, Nat.reduceAdd, Nat.reduceSub, Nat.reduceLeDiff]
      exact l1_end
    · simp +decide only [mjs_0, mjs_1, mjs_2, mjs_3, mjs_ble, true_and, Bool.false_eq_true, if_false, if_true, Nat.reduceAdd, Nat.reduceSub, Nat.reduceLeDiff, v1, mjs_rc s59_36]
      refine c_178e hM (by rw [hf 36 1 (by decide)]; exact z3) (fun h => h.elim (fun h => absurd h ht) (fun h => absurd ht' h)) (fun _ _ I2 h0 => ?_)
      simp +decide only [mjs_0, mjs_1, mjs_2, mjs_3, mjs_ble, true_and, Bool.false_eq_true, if_false, if_true, Nat.reduceAdd, Nat.reduceSub, Nat.reduceLeDiff, mjs_rc s59_36]
      refine c_104 ?_
      simp +decide only [mjs_0, mjs_1, mjs_2, mjs_3, mjs_ble, true_and, Bool.false_eq_true, if_false, if_true, Nat.reduceAdd, Nat.reduceSub, Nat.reduceLeDiff, h0]
      refine ⟨fun _ => mj_blk rfl ?_, fun q => q.elim⟩
      simp +decide only [mjs_0, mjs_1, mjs_2, mjs_3, mjs_ble, true_and, Bool.false_eq_true, if_false, if_true, Nat.reduceAdd, Nat.reduceSub, Nat.reduceLeDiff]
      refine ⟨fun q => q.elim, fun _ => mj_blk rfl ?_⟩
      simp +decide only [mjs_0, mjs_1, mjs_2, mjs_3, mjs_ble, true_and, Bool.false_eq_true, if_false, if_true, Nat.reduceAdd, Nat.reduceSub, Nat.reduceLeDiff, mjs_ar (t := 1) s59_58, mjs_up_at]
      have e0 : (0 : Int32).toNatClampNeg = 0 := by decide
      simp +decide only [mjs_0, mjs_1, mjs_2, mjs_3, mjs_ble, true_and, Bool.false_eq_true, if_false, if_true, Nat.reduceAdd, Nat.reduceSub, Nat.reduceLeDiff, e0, mjs_up_at]
      refine ⟨by unfold vp_in; decide, fun _ => mj_blk rfl ?_, fun q => q.elim⟩
      simp +decide only [mjs_0, mjs_1, mjs_2, mjs_3, mjs_ble, true_and, Bool.false_eq_true, if_false, if_true, Nat.reduceAdd, Nat.reduceSub, Nat.reduceLeDiff]
      exact l1_end
  · simp +decide only [mjs_0, mjs_1, mjs_2, mjs_3, mjs_ble, true_and, Bool.false_eq_true, if_false, if_true, Nat.reduceAdd, Nat.reduceSub, Nat.reduceLeDiff, mjs_rc s59_0]
    refine c_3 hR ?_
    simp +decide only [mjs_0, mjs_1, mjs_2, mjs_3, mjs_ble, true_and, Bool.false_eq_true, if_false, if_true, Nat.reduceAdd, Nat.reduceSub, Nat.reduceLeDiff, mjs_rc s59_36, y1]
    refine c_179 ?_
    simp +decide only [mjs_0, mjs_1, mjs_2, mjs_3, mjs_ble, true_and, Bool.false_eq_true, if_false, if_true, Nat.reduceAdd, Nat.reduceSub, Nat.reduceLeDiff, z2 36 (by decide)]
    exact ⟨fun _ => l1_end, fun q => q.elim⟩
  · simp +decide only [mjs_0, mjs_1, mjs_2, mjs_3, mjs_ble, true_and, Bool.false_eq_true, if_false, if_true, Nat.reduceAdd, Nat.reduceSub, Nat.reduceLeDiff, mjs_rc s59_0]
    refine c_4 hR ?_
    simp +decide only [mjs_0, mjs_1, mjs_2, mjs_3, mjs_ble, true_and, Bool.false_eq_true, if_false, if_true, Nat.reduceAdd, Nat.reduceSub, Nat.reduceLeDiff, mjs_rc s59_36, y34]
    refine c_180 ?_
    simp +decide only [mjs_0, mjs_1, mjs_2, mjs_3, mjs_ble, true_and, Bool.false_eq_true, if_false, if_true, Nat.reduceAdd, Nat.reduceSub, Nat.reduceLeDiff, z2 3 (by decide)]
    exact ⟨fun _ => l1_end, fun q => q.elim⟩
  · simp +decide only [mjs_0, mjs_1, mjs_2, mjs_3, mjs_ble, true_and, Bool.false_eq_true, if_false, if_true, Nat.reduceAdd, Nat.reduceSub, Nat.reduceLeDiff, v1]
    refine c_194e hR y34 hr ?_
    simp +decide only [mjs_0, mjs_1, mjs_2, mjs_3, mjs_ble, true_and, Bool.false_eq_true, if_false, if_true, Nat.reduceAdd, Nat.reduceSub, Nat.reduceLeDiff, v1, mjs_rc s59_36]
    refine c_181e (z2 3 (by decide)) ?_
    simp +decide only [mjs_0, mjs_1, mjs_2, mjs_3, mjs_ble, true_and, Bool.false_eq_true, if_false, if_true, Nat.reduceAdd, Nat.reduceSub, Nat.reduceLeDiff, mjs_rc s59_36]
    refine c_104 ?_
    simp +decide only [mjs_0, mjs_1, mjs_2, mjs_3, mjs_ble, true_and, Bool.false_eq_true, if_false, if_true, Nat.reduceAdd, Nat.reduceSub, Nat.reduceLeDiff, mjs_up_at]
    refine ⟨fun _ => mj_blk rfl ?_, fun q => q.elim⟩
    simp +decide only [mjs_0, mjs_1, mjs_2, mjs_3, mjs_ble, true_and, Bool.false_eq_true, if_false, if_true, Nat.reduceAdd, Nat.reduceSub, Nat.reduceLeDiff]
    refine ⟨fun _ => mj_blk rfl ?_, fun q => q.elim⟩
    simp +decide only [mjs_0, mjs_1, mjs_2, mjs_3, mjs_ble, true_and, Bool.false_eq_true, if_false, if_true, Nat.reduceAdd, Nat.reduceSub, Nat.reduceLeDiff]
    exact l1_end
  · simp +decide only [mjs_0, mjs_1, mjs_2, mjs_3, mjs_ble, true_and, Bool.false_eq_true, if_false, if_true, Nat.reduceAdd, Nat.reduceSub, Nat.reduceLeDiff, v1]
    refine c_195e hR hr (fun ht => ?_) (fun k hk e => ?_)
    · simp +decide only [mjs_0, mjs_1, mjs_2, mjs_3, mjs_ble, true_and, Bool.false_eq_true, if_false, if_true, Nat.reduceAdd, Nat.reduceSub, Nat.reduceLeDiff, v1, mjs_rc s59_36]
      refine c_182 hM (fun _ => ?_) (fun k hk e => ?_)
      · simp +decide only [mjs_0, mjs_1, mjs_2, mjs_3, mjs_ble, true_and, Bool.false_eq_true, if_false, if_true, Nat.reduceAdd, Nat.reduceSub, Nat.reduceLeDiff, mjs_rc s59_36]
        refine c_104 ?_
        simp +decide only [mjs_0, mjs_1, mjs_2, mjs_3, mjs_ble, true_and, Bool.false_eq_true, if_false, if_true, Nat.reduceAdd, Nat.reduceSub, Nat.reduceLeDiff, mjs_up_at]
        refine ⟨fun _ => mj_blk rfl ?_, fun q => q.elim⟩
        simp +decide only [mjs_0, mjs_1, mjs_2, mjs_3, mjs_ble, true_and, Bool.false_eq_true, if_false, if_true, Nat.reduceAdd, Nat.reduceSub, Nat.reduceLeDiff]
        refine ⟨fun _ => mj_blk rfl ?_, fun q => q.elim⟩
        simp +decide only [mjs_0, mjs_1, mjs_2, mjs_3, mjs_ble, true_and, Bool.false_eq_true, if_false, if_true, Nat.reduceAdd, Nat.reduceSub, Nat.reduceLeDiff]
        exact l1_end
      · rw [e] at ht
        rcases ht with h | h
        · exact absurd h (nI_pos (by omega))
        · exact absurd (show nI k ≤ nI 255 from nI_le hk (by decide)) h
    · simp +decide only [mjs_0, mjs_1, mjs_2, mjs_3, mjs_ble, true_and, Bool.false_eq_true, if_false, if_true, Nat.reduceAdd, Nat.reduceSub, Nat.reduceLeDiff, v1, mjs_rc s59_36]
      refine c_182 hM (fun h => ?_) (fun k' hk' e' => ?_)
      · rw [e] at h
        rcases h with h | h
        · exact absurd h (nI_pos (by omega))
        · exact absurd (show nI k ≤ nI 255 from nI_le hk (by decide)) h
      · simp +decide only [mjs_0, mjs_1, mjs_2, mjs_3, mjs_ble, true_and, Bool.false_eq_true, if_false, if_true, Nat.reduceAdd, Nat.reduceSub, Nat.reduceLeDiff, mjs_rc s59_36]
        refine c_104 ?_
        simp +decide only [mjs_0, mjs_1, mjs_2, mjs_3, mjs_ble, true_and, Bool.false_eq_true, if_false, if_true, Nat.reduceAdd, Nat.reduceSub, Nat.reduceLeDiff, mjs_up_at]
        refine ⟨fun _ => mj_blk rfl ?_, fun q => q.elim⟩
        simp +decide only [mjs_0, mjs_1, mjs_2, mjs_3, mjs_ble, true_and, Bool.false_eq_true, if_false, if_true, Nat.reduceAdd, Nat.reduceSub, Nat.reduceLeDiff]
        refine ⟨fun q => q.elim, fun _ => mj_blk rfl ?_⟩
        have e0 : (0 : Int32).toNatClampNeg = 0 := by decide
        simp +decide only [mjs_0, mjs_1, mjs_2, mjs_3, mjs_ble, true_and, Bool.false_eq_true, if_false, if_true, Nat.reduceAdd, Nat.reduceSub, Nat.reduceLeDiff, mjs_ar (t := 1) s59_58, e0, mjs_up_at, z1 10 k (by decide) (by unfold mz; decide), z4 k' (by omega)]
        refine ⟨by unfold vp_in; decide, fun _ => mj_blk rfl ?_, fun q => q.elim⟩
        simp +decide only [mjs_0, mjs_1, mjs_2, mjs_3, mjs_ble, true_and, Bool.false_eq_true, if_false, if_true, Nat.reduceAdd, Nat.reduceSub, Nat.reduceLeDiff]
        exact l1_end
end MJLAW1
