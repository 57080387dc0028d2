/-! THE LOCALS -/
def mj_lr (ad : Nat → Nat) (nL : Nat) (lv : mj_LV) (ls : Array Slot) : Prop := ls.size = nL ∧ lv_wf ls ∧ ∀ i v, lv.getD i none = some v → ls[i]? = some (.val (mj_tr ad v))
def mj_ps (ad : Nat → Nat) (lv : mj_LV) : List (Nat × Value) := (List.range lv.length).filterMap fun i => (lv.getD i none).map fun v => (i, mj_tr ad v)
theorem mj_getD_lt {lv : mj_LV} {i : Nat} {v : Value} (h : lv.getD i none = some v) : i < lv.length := by
  by_cases hl : i < lv.length
  · exact hl
  · rw [List.getD_eq_getElem?_getD, List.getElem?_eq_none_iff.mpr (by omega)] at h
    cases h
theorem mj_ps_mem {ad : Nat → Nat} {lv : mj_LV} {q : Nat × Value} : q ∈ mj_ps ad lv ↔ ∃ v, lv.getD q.1 none = some v ∧ q.2 = mj_tr ad v := by
  unfold mj_ps
  rw [List.mem_filterMap]
  constructor
  · rintro ⟨i, -, h⟩
    obtain ⟨v, h1, h2⟩ := Option.map_eq_some_iff.mp h
    subst h2
    exact ⟨v, h1, rfl⟩
  · rintro ⟨v, h1, h2⟩
    refine ⟨q.1, List.mem_range.mpr (mj_getD_lt h1), ?_⟩
    rw [h1]
    simp [← h2]
theorem mj_lr.has {ad : Nat → Nat} {nL : Nat} {lv : mj_LV} {ls : Array Slot} (h : mj_lr ad nL lv ls) : lv_has ls nL (mj_ps ad lv) := by
  refine ⟨h.1, h.2.1, fun q hq => ?_⟩
  obtain ⟨v, h1, h2⟩ := mj_ps_mem.mp hq
  rw [h2]
  exact h.2.2 _ _ h1
theorem mj_set_get {lv : mj_LV} {i j : Nat} {x : Option Value} {w : Value} (h : (lv.set i x).getD j none = some w) : (j = i ∧ x = some w) ∨ (j ≠ i ∧ lv.getD j none = some w) := by
  rw [List.getD_eq_getElem?_getD] at h
  by_cases hj : j = i
  · subst hj
    by_cases hl : j < lv.length
    · rw [List.getElem?_set_self hl] at h
      exact Or.inl ⟨rfl, h⟩
    · rw [List.getElem?_eq_none_iff.mpr (by simp; omega)] at h
      cases h
  · rw [List.getElem?_set_ne (Ne.symm hj)] at h
    exact Or.inr ⟨hj, by rw [List.getD_eq_getElem?_getD]; exact h⟩
theorem mj_c2_cat {w : Value} (h : w.category = 2) : mj_c2 (some w) = true := by cases w <;> simp_all [Value.category, mj_c2]
theorem mj_st_get {lv : mj_LV} {i j : Nat} {v w : Value} (h : (mj_st lv i v).getD j none = some w) : (j = i ∧ w = v) ∨ (j ≠ i ∧ lv.getD j none = some w ∧ ¬ (j + 1 = i ∧ w.category = 2)) := by
  unfold mj_st at h
  split at h
  · rcases mj_set_get h with ⟨h1, h2⟩ | ⟨h1, h2⟩
    · cases h2; exact Or.inl ⟨h1, rfl⟩
    · exact Or.inr ⟨h1, h2, fun q => by omega⟩
  · rename_i k
    split at h
    · rcases mj_set_get h with ⟨h1, h2⟩ | ⟨h1, h2⟩
      · cases h2; exact Or.inl ⟨h1, rfl⟩
      · rcases mj_set_get h2 with ⟨h3, h4⟩ | ⟨h3, h4⟩
        · cases h4
        · exact Or.inr ⟨h1, h4, fun q => by omega⟩
    · rename_i hc
      rcases mj_set_get h with ⟨h1, h2⟩ | ⟨h1, h2⟩
      · cases h2; exact Or.inl ⟨h1, rfl⟩
      · refine Or.inr ⟨h1, h2, fun q => hc ?_⟩
        have : j = k := by omega
        subst this
        rw [h2]
        exact mj_c2_cat q.2
theorem mj_lr.store1 {ad : Nat → Nat} {nL : Nat} {lv : mj_LV} {ls' : Array Slot} {i : Nat} {v : Value} (h : lv_has ls' nL ((i, mj_tr ad v) :: (mj_ps ad lv).filter (fun q => !(q.1 == i) && !(q.1 + 1 == i && q.2.category == 2)))) : mj_lr ad nL (mj_st lv i v) ls' := by
  refine ⟨h.1, h.2.1, fun j w hj => ?_⟩
  rcases mj_st_get hj with ⟨h1, h2⟩ | ⟨h1, h2, h3⟩
  · subst h1; subst h2
    exact h.2.2 _ List.mem_cons_self
  · refine h.2.2 (j, mj_tr ad w) (List.mem_cons_of_mem _ (List.mem_filter.mpr ⟨mj_ps_mem.mpr ⟨w, h2, rfl⟩, ?_⟩))
    simp only [Bool.and_eq_true, Bool.not_eq_true', beq_eq_false_iff_ne, ne_eq, Bool.and_eq_false_iff, mj_tr_cat]
    refine ⟨h1, ?_⟩
    by_cases hq : j + 1 = i
    · exact Or.inr (fun q => h3 ⟨hq, q⟩)
    · exact Or.inl hq
theorem mj_lr.store2 {ad : Nat → Nat} {nL : Nat} {lv : mj_LV} {ls' : Array Slot} {i : Nat} {v : Int64} (h : lv_has ls' nL ((i, .long v) :: (mj_ps ad lv).filter (fun q => !(q.1 == i) && (!(q.1 == i + 1) && !(q.1 + 1 == i && q.2.category == 2))))) : mj_lr ad nL (mj_st2 lv i v) ls' := by
  refine ⟨h.1, h.2.1, fun j w hj => ?_⟩
  unfold mj_st2 at hj
  rcases mj_set_get hj with ⟨-, h2⟩ | ⟨h0, h2⟩
  · cases h2
  · rcases mj_st_get h2 with ⟨h1, h4⟩ | ⟨h1, h2, h3⟩
    · subst h1
      rw [h4]
      exact h.2.2 (j, .long v) List.mem_cons_self
    · refine h.2.2 (j, mj_tr ad w) (List.mem_cons_of_mem _ (List.mem_filter.mpr ⟨mj_ps_mem.mpr ⟨w, h2, rfl⟩, ?_⟩))
      simp only [Bool.and_eq_true, Bool.not_eq_true', beq_eq_false_iff_ne, ne_eq, Bool.and_eq_false_iff, mj_tr_cat]
      refine ⟨h1, h0, ?_⟩
      by_cases hq : j + 1 = i
      · exact Or.inr (fun q => h3 ⟨hq, q⟩)
      · exact Or.inl hq
theorem mj_lr.less {ad : Nat → Nat} {nL : Nat} {lv lv' : mj_LV} {ls : Array Slot} (h : mj_lr ad nL lv ls) (hl : ∀ i v, lv'.getD i none = some v → lv.getD i none = some v) : mj_lr ad nL lv' ls := ⟨h.1, h.2.1, fun i v q => h.2.2 i v (hl i v q)⟩
theorem mj_lr.ad {ad ad' : Nat → Nat} {nL n : Nat} {lv : mj_LV} {ls : Array Slot} (h : mj_lr ad nL lv ls) (hw : mj_wL n lv) (ha : ∀ q, mj_wr n q → ad' q = ad q) : mj_lr ad' nL lv ls := by
  refine ⟨h.1, h.2.1, fun i v q => ?_⟩
  rw [h.2.2 i v q]
  have := hw i v q
  cases v <;> simp_all [mj_tr, mj_wv]
theorem mj_mk_get : ∀ (mk : List Bool) (lv : mj_LV) (i : Nat) (v : Value), (mj_mk mk lv).getD i none = some v → lv.getD i none = some v
  | [], _, i, v, h => by simp [mj_mk] at h
  | _ :: _, [], i, v, h => by simp [mj_mk] at h
  | b :: bs, x :: xs, 0, v, h => by
    simp only [mj_mk, List.getD_cons_zero] at h ⊢
    split at h
    · exact h
    · cases h
  | b :: bs, x :: xs, i + 1, v, h => by
    simp only [mj_mk, List.getD_cons_succ] at h ⊢
    exact mj_mk_get bs xs i v h
theorem mj_wL.less {n : Nat} {lv lv' : mj_LV} (h : mj_wL n lv) (hl : ∀ i v, lv'.getD i none = some v → lv.getD i none = some v) : mj_wL n lv' := fun i v q => h i v (hl i v q)
theorem mj_wL.store {n : Nat} {lv : mj_LV} {i : Nat} {v : Value} (h : mj_wL n lv) (hv : mj_wv n v) : mj_wL n (mj_st lv i v) := by
  intro j w hj
  rcases mj_st_get hj with ⟨-, h2⟩ | ⟨-, h2, -⟩
  · rw [h2]; exact hv
  · exact h j w h2
theorem mj_wL.store2 {n : Nat} {lv : mj_LV} {i : Nat} {v : Int64} (h : mj_wL n lv) : mj_wL n (mj_st2 lv i v) := by
  intro j w hj
  unfold mj_st2 at hj
  rcases mj_set_get hj with ⟨-, h2⟩ | ⟨-, h2⟩
  · cases h2
  · exact h.store (v := .long v) trivial j w h2
theorem mj_none_get {lv : mj_LV} {k i : Nat} {v : Value} (h : (lv.set k none).getD i none = some v) : lv.getD i none = some v := by
  rcases mj_set_get h with ⟨-, h2⟩ | ⟨-, h2⟩
  · cases h2
  · exact h2
theorem mj_er_get {lv : mj_LV} {i j : Nat} {v : Value} (h : (mj_er lv i).getD j none = some v) : j ≠ i ∧ lv.getD j none = some v ∧ ¬ (j + 1 = i ∧ v.category = 2) := by
  unfold mj_er at h
  rcases mj_set_get h with ⟨-, h2⟩ | ⟨h0, h2⟩
  · cases h2
  · rcases mj_st_get h2 with ⟨h1, -⟩ | h3
    · exact absurd h1 h0
    · exact h3
/-- the locals with which a method begins -/
theorem mj_en_args (ad : Nat → Nat) : ∀ (as : List Value) (k i : Nat) (v : Value), (mj_en as).getD i none = some v → (k + i, mj_tr ad v) ∈ lv_args k (as.map (mj_tr ad))
  | [], k, i, v, h => by simp [mj_en] at h
  | x :: r, k, i, v, h => by
    have one : ∀ (h1 : mj_en (x :: r) = some x :: mj_en r) (h2 : (mj_tr ad x).category = 1), (k + i, mj_tr ad v) ∈ lv_args k ((x :: r).map (mj_tr ad)) := by
      intro h1 h2
      rw [h1] at h
      simp only [List.map_cons, lv_args, h2, List.mem_cons]
      cases i with
      | zero =>
        simp only [List.getD_cons_zero, Option.some.injEq] at h
        subst h
        exact Or.inl rfl
      | succ i =>
        simp only [List.getD_cons_succ] at h
        exact Or.inr (by rw [show k + (i + 1) = k + 1 + i by omega]; exact mj_en_args ad r (k + 1) i v h)
    have two : ∀ (h1 : mj_en (x :: r) = some x :: none :: mj_en r) (h2 : (mj_tr ad x).category = 2), (k + i, mj_tr ad v) ∈ lv_args k ((x :: r).map (mj_tr ad)) := by
      intro h1 h2
      rw [h1] at h
      simp only [List.map_cons, lv_args, h2, List.mem_cons]
      match i, h with
      | 0, h =>
        simp only [List.getD_cons_zero, Option.some.injEq] at h
        subst h
        exact Or.inl rfl
      | 1, h => simp at h
      | i + 2, h =>
        simp only [List.getD_cons_succ] at h
        exact Or.inr (by rw [show k + (i + 2) = k + 2 + i by omega]; exact mj_en_args ad r (k + 2) i v h)
    cases x with
    | long y => exact two rfl rfl
    | double y => exact two rfl rfl
    | int y => exact one rfl rfl
    | float y => exact one rfl rfl
    | null => exact one rfl rfl
    | ref y => exact one rfl rfl
    | retAddr y => exact one rfl rfl
theorem mj_lr_entry (ad : Nat → Nat) (as : List Value) {n k : Nat} (h : (lg_sl (as.map (mj_tr ad))).length ≤ n) : mj_lr ad n (mj_en as ++ List.replicate k none) ((lg_sl (as.map (mj_tr ad)) ++ List.replicate (n - (lg_sl (as.map (mj_tr ad))).length) Slot.unset).toArray) := by
  have he := lv_entry (as.map (mj_tr ad)) h
  refine ⟨he.1, he.2.1, fun i v hi => ?_⟩
  have : (mj_en as).getD i none = some v := by
    rw [List.getD_eq_getElem?_getD] at hi ⊢
    by_cases hl : i < (mj_en as).length
    · rw [List.getElem?_append_left hl] at hi
      exact hi
    · rw [List.getElem?_append_right (by omega)] at hi
      exfalso
      cases hr : (List.replicate k (none : Option Value))[i - (mj_en as).length]? with
      | none => rw [hr] at hi; cases hi
      | some w =>
        have := List.eq_of_mem_replicate (List.mem_of_getElem? hr)
        rw [hr, this] at hi
        cases hi
  have := mj_en_args ad as 0 i v this
  rw [Nat.zero_add] at this
  exact he.2.2 _ this
theorem mj_wL_entry {n k : Nat} : ∀ {as : List Value}, mj_wT n as → mj_wL n (mj_en as ++ List.replicate k none) := by
  intro as h i v hi
  have key : ∀ (as : List Value), mj_wT n as → ∀ i v, (mj_en as).getD i none = some v → mj_wv n v := by
    intro as
    induction as with
    | nil => intro _ i v h; simp [mj_en] at h
    | cons x r ih =>
      intro hw i v h
      have hx := hw x List.mem_cons_self
      have hr : mj_wT n r := fun y hy => hw y (List.mem_cons_of_mem _ hy)
      cases x <;> simp only [mj_en] at h <;> (match i, h with
        | 0, h => simp only [List.getD_cons_zero, Option.some.injEq] at h; subst h; exact hx
        | 1, h => first | (simp at h; done) | (simp only [List.getD_cons_succ] at h; exact ih hr _ v h)
        | i + 2, h => simp only [List.getD_cons_succ] at h; exact ih hr _ v h)
  refine key as h i v ?_
  rw [List.getD_eq_getElem?_getD] at hi ⊢
  by_cases hl : i < (mj_en as).length
  · rw [List.getElem?_append_left hl] at hi
    exact hi
  · rw [List.getElem?_append_right (by omega)] at hi
    exfalso
    cases hr : (List.replicate k (none : Option Value))[i - (mj_en as).length]? with
    | none => rw [hr] at hi; cases hi
    | some w =>
      have := List.eq_of_mem_replicate (List.mem_of_getElem? hr)
      rw [hr, this] at hi
      cases hi
