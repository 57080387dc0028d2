/-! A RUN'S BEGINNING: the class -/
/-- the categories at the beginning -/
def ct (c : Nat) : Nat := if c = 92 then 0 else if c = 123 then 1 else if c = 125 then 2 else if c = 36 then 3 else if c = 38 then 4 else if c = 13 then 5 else if c = 35 then 6 else if c = 94 then 7 else if c = 95 then 8 else if c = 0 then 9 else if c = 32 then 10 else if c = 9 then 10 else if c = 126 then 13 else if c = 37 then 14 else if c = 127 then 15 else if (97 ≤ c ∧ c ≤ 122) ∨ (65 ≤ c ∧ c ≤ 90) then 11 else 12
theorem ite_le {p : Prop} [Decidable p] {a b m : Nat} (ha : a ≤ m) (hb : b ≤ m) : (if p then a else b) ≤ m := by
  by_cases h : p
  · rw [if_pos h]
    exact ha
  · rw [if_neg h]
    exact hb
theorem ct_le (c : Nat) : ct c ≤ 15 := by
  unfold ct
  repeat refine ite_le (by decide) ?_
  decide
/-- the tables of the beginning -/
def VB (vb : Nat → Int32) : Prop := (∀ b, b < 256 → fd_M pmc pml b 36 (vb (2000 + b))) ∧ (∀ c, c < 256 → vb c = 0 ∧ vb (256 + c) = nI (ct c) ∧ vb (512 + c) = 0) ∧ (∀ i, i < 36 → vb (768 + i) = nI (65536 + (i + 1))) ∧ ∀ i, 36 ≤ i → i < 1036 → vb (768 + i) = 0
theorem hs_bc {f g : Nat → Nat} {n m : Nat} (hn : n = m) (h : ∀ j, j < n → f j = g j) : hs_b f n = hs_b g m := by
  subst hn
  unfold hs_b
  rw [hs_eq n h]
theorem fd_Mc {nm nm' : Nat → Nat → Nat} {ln ln' : Nat → Nat} {b u : Nat} {x : Int32} (h : ∀ i, i < u → hs_b (nm i) (ln i) = hs_b (nm' i) (ln' i)) (hM : fd_M nm ln b u x) : fd_M nm' ln' b u x := by
  rcases hM with ⟨e, h1⟩ | ⟨i, h1, e, h2, h3⟩
  · exact Or.inl ⟨e, fun i hi => by rw [← h i hi]; exact h1 i hi⟩
  · exact Or.inr ⟨i, h1, e, by rw [← h i h1]; exact h2, fun i' h4 h5 => by rw [← h i' h5]; exact h3 i' h4 h5⟩
def pm_ck1 : Bool := (List.range 36).all fun i => decide (pml i ≤ 40) && (List.range (pml i)).all fun j => decide (pmc i j < 256)
def pm_ck2 : Bool := (List.range 36).all fun i => (List.range 36).all fun j => decide (i = j) || !(decide (pml i = pml j)) || (List.range (pml j)).any fun q => decide (pmc i q ≠ pmc j q)
theorem pm_1 : pm_ck1 = true := by decide +kernel
theorem pm_2 : pm_ck2 = true := by decide +kernel
theorem pm_len {i : Nat} (hi : i < 36) : pml i ≤ 40 ∧ ∀ j, j < pml i → pmc i j < 256 := by
  have h := List.all_eq_true.mp pm_1 i (List.mem_range.mpr hi)
  rw [Bool.and_eq_true] at h
  exact ⟨of_decide_eq_true h.1, fun j hj => of_decide_eq_true (List.all_eq_true.mp h.2 j (List.mem_range.mpr hj))⟩
theorem pm_ne {i j : Nat} (hi : i < 36) (hj : j < 36) (hf : fd_is pmc pml (pmc j) (pml j) i) : i = j := by
  have h := List.all_eq_true.mp (List.all_eq_true.mp pm_2 i (List.mem_range.mpr hi)) j (List.mem_range.mpr hj)
  rw [Bool.or_eq_true, Bool.or_eq_true] at h
  rcases h with (h | h) | h
  · exact of_decide_eq_true h
  · rw [decide_eq_true hf.1] at h
    exact absurd h (by decide)
  · obtain ⟨q, hq, h2⟩ := List.any_eq_true.mp h
    exact absurd (hf.2 q (List.mem_range.mp hq)) (of_decide_eq_true h2)
theorem pm_gv : gvN (pmc, pml, 36) := ⟨Nat.le_refl _, by decide, fun _ hi => pm_len hi, fun _ _ hi hj hf => pm_ne hi hj hf, fun _ _ => ⟨rfl, fun _ _ => rfl⟩⟩
/-- what a run begins with -/
def g0 (vb : Nat → Int32) (lim st mm n : Nat) (tx : Nat → Nat) : sg := ((0, lim, 0), [], [], (pmc, pml, 36), (fun _ x => vb x, fun _ => 0, 0, 0), (fun _ => 0, fun _ => 0, fun a => if a = 0 then 0 else mm, 0, 1, 0), (0, fun _ => 0, fun _ => 0), (0, fun _ => 0), ([], st, tx, n, 0))
section MJBG
variable {X : mj_X} {d nc ns : Nat} {Q : mj_Q} {I I' J J' H : Nat → Nat → Int32} {Lg : Nat → Nat → Int64} {Rf : Nat → Nat → Option Nat} {vb : Nat → Int32} {tk n lim st mm : Nat} {tx : Nat → Nat} {O : sgO} {cn : Nat → Int32}
theorem g0_gv (hV : VB vb) (hst : st ≤ 2) (hn : n ≤ 4000) (htx : ∀ j, j < n → tx j < 256) : gv (g0 vb lim st mm n tx) := by
  refine ⟨fun t ht => absurd ht List.not_mem_nil, trivial, pm_gv, ⟨(show (0 : Nat) ≤ 100 by decide), fun l c _ hc => ⟨ct c, ct_le c, (hV.2.1 c hc).2.1⟩, fun l x _ h1 h2 => ?_, fun l x _ h1 h2 => ?_⟩, ⟨⟨Nat.le_refl 1, rfl, rfl, rfl⟩, fun a ha => ?_, ⟨Nat.le_refl 0, (show (0 : Nat) ≤ 10000 by decide), Nat.le_refl 1, (show (0 : Nat) ≤ 30001 by decide)⟩, fun j hj => absurd hj (Nat.not_lt_zero _)⟩, ⟨(show (0 : Nat) ≤ 100 by decide), fun j hj => absurd hj (Nat.not_lt_zero _)⟩, ⟨(show (0 : Nat) ≤ 8000 by decide), fun j hj => absurd hj (Nat.not_lt_zero _)⟩, ⟨⟨hn, (show (0 : Nat) ≤ 4001 by decide), hst, Nat.le_refl 0⟩, fun c hc => absurd hc List.not_mem_nil, htx⟩⟩
  · have h2' : x < 768 + 36 := h2
    show mv 1 (vb x)
    by_cases e : x < 768
    · refine Or.inl ?_
      have := (hV.2.1 (x - 512) (by omega)).2.2
      rw [show 512 + (x - 512) = x by omega] at this
      exact this
    · refine Or.inr (Or.inl ⟨x - 768 + 1, by omega, by omega, ?_⟩)
      have := hV.2.2.1 (x - 768) (by omega)
      rw [show 768 + (x - 768) = x by omega] at this
      exact this
  · have h1' : 768 + 36 ≤ x := h1
    show vb x = 0
    have := hV.2.2.2 (x - 768) (by omega) (by omega)
    rw [show 768 + (x - 768) = x by omega] at this
    exact this
  · have ha' : a < 1 := ha
    obtain rfl : a = 0 := by omega
    exact ⟨Nat.le_refl 0, Nat.le_refl 0, Nat.le_refl 0, fun i h1 h2 => absurd (show i < 0 from h2) (Nat.not_lt_zero _), Nat.zero_le 9, fun i h1 h2 => absurd (show i < 0 from h2) (Nat.not_lt_zero _), fun i h1 h2 => absurd (show i < 0 from h2) (Nat.not_lt_zero _)⟩
theorem n0_c : (0 : Int32).toNatClampNeg = 0 := by decide
theorem n256_c : (256 : Int32).toNatClampNeg = 256 := by decide
theorem n1804_c : (1804 : Int32).toNatClampNeg = 1804 := by decide
theorem cpy_at {f g : Nat → Int32} {m k : Nat} (h : k < m) : va_cpy f g 0 0 m k = f k := by
  unfold va_cpy
  rw [if_pos ⟨Nat.zero_le _, by omega⟩, Nat.zero_add, Nat.sub_zero]
theorem c_55x (hR : mj_Rt mp_R Rf) (hQ : Q (.inl none) (sh59, mj_up (mj_row I 5 (va_cpy (I 8) (I 5) 0 0 256)) 2 5 36, Lg, Rf, nc, ns)) : mj_call X mj_P (mj_bi X) (d + 2) 55 [.ref 2] (sh59, I, Lg, Rf, nc, ns) Q := by
  have r3 := hR.at (a := 2) (b := 3) (c := 8) (by decide)
  have r2 := hR.at (a := 2) (b := 2) (c := 5) (by decide)
  refine mj_enter (z := (1, [], mb_55)) (by decide) rfl rfl ?_
  refine mj_blk rfl ?_
  simp +decide only [mjs_0, mjs_1, mjs_2, mjs_3, mjs_ble, true_and, Bool.false_eq_true, if_false, if_true, Nat.reduceAdd, Nat.reduceSub, Nat.reduceLeDiff, mjs_ob s59_2, r3, r2]
  refine c_902 (n0 := 256) (n1 := 256) (mjs_ar (t := 0) s59_8) (mjs_ar (t := 0) s59_5) (by decide) ?_
  simp +decide only [mjs_0, mjs_1, mjs_2, mjs_3, mjs_ble, true_and, Bool.false_eq_true, if_false, if_true, Nat.reduceAdd, Nat.reduceSub, Nat.reduceLeDiff, mjs_ob s59_2, n0_c, n256_c]
  exact hQ
theorem c_90x (hR : mj_Rt mp_R Rf) (hQ : Q (.inl none) (sh59, mj_row I 10 (va_cpy (I 11) (I 10) 0 0 1804), Lg, Rf, nc, ns)) : mj_call X mj_P (mj_bi X) (d + 2) 90 [.ref 9] (sh59, I, Lg, Rf, nc, ns) Q := by
  have r1 := hR.at (a := 9) (b := 1) (c := 11) (by decide)
  have r0 := hR.at (a := 9) (b := 0) (c := 10) (by decide)
  refine mj_enter (z := (1, [], mb_90)) (by decide) rfl rfl ?_
  refine mj_blk rfl ?_
  simp +decide only [mjs_0, mjs_1, mjs_2, mjs_3, mjs_ble, true_and, Bool.false_eq_true, if_false, if_true, Nat.reduceAdd, Nat.reduceSub, Nat.reduceLeDiff, mjs_ob s59_9, r1, r0]
  refine c_902 (n0 := 1804) (n1 := 1804) (mjs_ar (t := 0) s59_11) (mjs_ar (t := 0) s59_10) (by decide) ?_
  simp +decide only [mjs_0, mjs_1, mjs_2, mjs_3, mjs_ble, true_and, Bool.false_eq_true, if_false, if_true, Nat.reduceAdd, Nat.reduceSub, Nat.reduceLeDiff, n0_c, n1804_c]
  exact hQ
/-- beginRun -/
theorem c_8x (hR : mj_Rt mp_R Rf) (hV : VB vb) (hI : IDC vb tk n tx O cn I) (hl : lim ≤ 30000) (hQ : ∀ I' st mm, gv (g0 vb lim st mm n tx) → RC I' vb (g0 vb lim st mm n tx) I' → Q (.inl none) (sh59, I', Lg, Rf, nc, ns)) : mj_call X mj_P (mj_bi X) (d + 3) 8 [.ref 0, .int (nI lim)] (sh59, I, Lg, Rf, nc, ns) Q := by
  have hr := mc_rf hR
  obtain ⟨h1, ⟨t1, t2, t3⟩, ⟨hO, hgO⟩, ⟨N, ⟨stt, hC, hH⟩, hgN⟩, hY, ⟨⟨T, kd, G, s⟩, ⟨Lv, sl, le, gs, ⟨hS, hS0⟩, hT⟩, eG, es, hcn⟩, s5, hs1, hs2⟩ := hI
  have eG' : G = 0 := eG
  have es' : s = 0 := es
  subst eG'
  subst es'
  have gp := hgN.2.2.2.2
  have hk36 := hgN.1
  have hs : ∀ j, j < 36 → hs_b (N.1 j) (N.2.1 j) = hs_b (pmc j) (pml j) := fun j hj => hs_bc (gp j hj).1 (fun q hq => (gp j hj).2 q (by rw [← (gp j hj).1]; exact hq))
  obtain ⟨mm, hmm⟩ := nI_ex (I 24 1)
  refine mj_enter (z := (2, [], mb_8)) (by decide) rfl rfl ?_
  refine mj_blk rfl ?_
  simp +decide only [mjs_0, mjs_1, mjs_2, mjs_3, mjs_ble, true_and, Bool.false_eq_true, if_false, if_true, Nat.reduceAdd, Nat.reduceSub, Nat.reduceLeDiff, false_implies, true_implies, not_false_eq_true, not_true_eq_false, and_true, mc_sh, hr, mjs_up_at, mjs_up_c, mjs_up_f]
  refine c_76 s59_1 ?_
  simp +decide only [mjs_0, mjs_1, mjs_2, mjs_3, mjs_ble, true_and, Bool.false_eq_true, if_false, if_true, Nat.reduceAdd, Nat.reduceSub, Nat.reduceLeDiff, false_implies, true_implies, not_false_eq_true, not_true_eq_false, and_true, mc_sh, hr, mjs_up_at, mjs_up_c, mjs_up_f]
  refine c_55x hR ?_
  simp +decide only [mjs_0, mjs_1, mjs_2, mjs_3, mjs_ble, true_and, Bool.false_eq_true, if_false, if_true, Nat.reduceAdd, Nat.reduceSub, Nat.reduceLeDiff, false_implies, true_implies, not_false_eq_true, not_true_eq_false, and_true, mc_sh, hr, mjs_up_at, mjs_up_c, mjs_up_f]
  refine c_90x hR ?_
  simp +decide only [mjs_0, mjs_1, mjs_2, mjs_3, mjs_ble, true_and, Bool.false_eq_true, if_false, if_true, Nat.reduceAdd, Nat.reduceSub, Nat.reduceLeDiff, false_implies, true_implies, not_false_eq_true, not_true_eq_false, and_true, mc_sh, hr, mjs_up_at, mjs_up_c, mjs_up_f]
  refine c_83 s59_17 ?_
  simp +decide only [mjs_0, mjs_1, mjs_2, mjs_3, mjs_ble, true_and, Bool.false_eq_true, if_false, if_true, Nat.reduceAdd, Nat.reduceSub, Nat.reduceLeDiff, false_implies, true_implies, not_false_eq_true, not_true_eq_false, and_true, mc_sh, hr, mjs_up_at, mjs_up_c, mjs_up_f]
  refine c_46 s59_21 ?_
  simp +decide only [mjs_0, mjs_1, mjs_2, mjs_3, mjs_ble, true_and, Bool.false_eq_true, if_false, if_true, Nat.reduceAdd, Nat.reduceSub, Nat.reduceLeDiff, false_implies, true_implies, not_false_eq_true, not_true_eq_false, and_true, mc_sh, hr, mjs_up_at, mjs_up_c, mjs_up_f]
  refine hQ _ s5 mm (g0_gv hV hs1 t2 (fun j hj => (t3 j hj).2)) ⟨⟨rfl, rfl, rfl, Nat.zero_le _, hl, (show (0 : Nat) ≤ 40 by decide)⟩, ⟨rfl, (show (0 : Nat) < 10100 by decide), trivial⟩, ⟨rfl, trivial⟩, ⟨stt, ⟨rfl, (show (36 : Nat) ≤ 1036 by decide), fun j hj => hC.2.2.1 j (Nat.le_trans hj hk36), fun j hj => ?_, fun j hj => hC.2.2.2.2.1 j (Nat.le_trans hj hk36), fun id j hid hj => ?_⟩, fun b hb => ?_, fun j hj => ?_⟩, ⟨Lv, sl, le, gs, ⟨⟨hS.1, hS.2.1, fun g hg => absurd hg (Nat.not_lt_zero _), hS.2.2.2.1, hS.2.2.2.2.1, hS.2.2.2.2.2⟩, rfl⟩, fun l z hl hz => ?_⟩, ⟨rfl, rfl, fun j hj => absurd hj (Nat.not_lt_zero _), fun a ha => ?_, fun a ha => ?_⟩, ⟨rfl, fun j hj => absurd hj (Nat.not_lt_zero _)⟩, ⟨rfl, fun j hj => absurd hj (Nat.not_lt_zero _)⟩, ⟨t1, rfl, hs2, ⟨1, 0, rfl, rfl, rfl, by decide, fun i hi => absurd hi (Nat.not_lt_zero _)⟩, fun j _ hj => (t3 j hj).1⟩, ⟨⟨rfl, rfl, rfl, rfl⟩, hY⟩⟩
  · have hj' : j < 36 := hj
    have := hC.2.2.2.1 j (by omega)
    rw [(gp j hj').1] at this
    exact this
  · have hid' : id < 36 := hid
    have := hC.2.2.2.2.2 id j (by omega) (by rw [(gp id hid').1]; exact hj)
    rw [(gp id hid').2 j hj] at this
    exact this
  · refine cast ?_ (hV.1 b hb)
    refine congrArg (fd_M pmc pml b 36) ?_
    exact (hY.1 b hb).symm.trans (cpy_at (f := I 8) (g := I 5) hb).symm
  · have hj' : j < 36 := hj
    have h2 := hH.2 j (by omega)
    rw [hs j hj'] at h2
    exact fd_Mc (fun i hi => hs i (by omega)) h2
  · obtain rfl : l = 0 := Nat.le_zero.mp hl
    exact (cpy_at (f := I 11) (g := I 10) hz).trans (hY.2.1.1 z hz)
  · have ha' : a ≤ 1 := ha
    rcases (show a = 0 ∨ a = 1 by omega) with rfl | rfl
    · exact hY.2.2.1
    · exact hY.2.2.2.1
  · have ha' : a ≤ 1 := ha
    rcases (show a = 0 ∨ a = 1 by omega) with rfl | rfl
    · exact hY.2.2.2.2
    · exact hmm
end MJBG
