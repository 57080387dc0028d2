/-! THE STORE AND THE HEAP: cell a of the store lies at the address ad a -/
theorem mj_row_ne {α : Type} {f : Nat → Nat → α} {a b : Nat} {g : Nat → α} (h : b ≠ a) : mj_row f a g b = f b := by funext k; simp [mj_row, h]
theorem mj_row_eq {α : Type} {f : Nat → Nat → α} {a : Nat} {g : Nat → α} : mj_row f a g a = g := by funext k; simp [mj_row]
theorem mj_up_ne {α : Type} {f : Nat → Nat → α} {a b j : Nat} {v : α} (h : b ≠ a) : mj_up f a j v b = f b := by funext k; simp [mj_up, h]
theorem mj_up_eq {f : Nat → Nat → Int32} {a j : Nat} {v : Int32} : mj_up f a j v a = upd (f a) j v := by funext k; simp [mj_up, upd]
theorem mj_up_eqL {f : Nat → Nat → Int64} {a j : Nat} {v : Int64} : mj_up f a j v a = vp_updL (f a) j v := by funext k; simp [mj_up, vp_updL]
def mj_tr (ad : Nat → Nat) : Value → Value
  | .ref a => .ref (ad a)
  | v => v
theorem mj_tr_cat (ad : Nat → Nat) (v : Value) : (mj_tr ad v).category = v.category := by cases v <;> rfl
def mj_fv (ad : Nat → Nat) (S : mj_S) (a j t : Nat) : Value := match t with
  | 2 => match S.2.2.2.1 a j with
    | some q => .ref (ad q)
    | none => .null
  | _ => .int (S.2.1 a j)
def mj_ent (ft : Nat → Nat → Nat) (ka : Nat → ClassId) (ad : Nat → Nat) (S : mj_S) (a : Nat) (kn : Nat × Nat) : va_E :=
  if kn.1 < 1000 then .inr (kn.1, (List.range kn.2).map fun j => mj_fv ad S a j (ft kn.1 j))
  else .inl (ka (kn.1 - 1000), kn.2, if kn.1 = 1001 then .inr (.inl (S.2.2.1 a)) else .inl (S.2.1 a))
def mj_ws (ft : Nat → Nat → Nat) (ka : Nat → ClassId) (ad : Nat → Nat) (S : mj_S) : va_W := (List.range S.1.length).map fun a => (ad a, mj_ent ft ka ad S a (S.1.getD a (0, 0)))
/-- references name cells that are there, or constants -/
def mj_wr (n q : Nat) : Prop := q < n ∨ 900000 ≤ q
def mj_wv (n : Nat) : Value → Prop
  | .ref q => mj_wr n q
  | _ => True
def mj_wS (S : mj_S) : Prop := (S.1.length < 900000 ∧ S.1.length ≤ S.2.2.2.2.1 ∧ S.2.2.2.2.1 ≤ 601024 ∧ S.2.2.2.2.2 ≤ 7293034) ∧ ∀ a j q, S.2.2.2.1 a j = some q → mj_wr S.1.length q
def mj_wL (n : Nat) (lv : mj_LV) : Prop := ∀ i v, lv.getD i none = some v → mj_wv n v
def mj_wT (n : Nat) (st : List Value) : Prop := ∀ v ∈ st, mj_wv n v
section MJWS
variable {ft : Nat → Nat → Nat} {ka : Nat → ClassId} {ad : Nat → Nat} {S : mj_S}
theorem mj_ws_at {a : Nat} {kn : Nat × Nat} (h : S.1[a]? = some kn) : (mj_ws ft ka ad S)[a]? = some (ad a, mj_ent ft ka ad S a kn) := by
  have hl := (List.getElem?_eq_some_iff.mp h).1
  unfold mj_ws
  rw [List.getElem?_map, List.getElem?_range hl]
  simp only [Option.map_some, List.getD_eq_getElem?_getD, h, Option.getD_some]
theorem mj_ws_len : (mj_ws ft ka ad S).length = S.1.length := by simp [mj_ws]
/-- two stores of the same kinds, told apart at one cell -/
theorem mj_ws_set {S' : mj_S} {a : Nat} {kn : Nat × Nat} (h : S.1[a]? = some kn) (hs : S'.1 = S.1) (ho : ∀ b, b ≠ a → S'.2.1 b = S.2.1 b ∧ S'.2.2.1 b = S.2.2.1 b ∧ S'.2.2.2.1 b = S.2.2.2.1 b) :
    mj_ws ft ka ad S' = (mj_ws ft ka ad S).set a (ad a, mj_ent ft ka ad S' a kn) := by
  apply List.ext_getElem?
  intro b
  have hl := (List.getElem?_eq_some_iff.mp h).1
  by_cases hb : b = a
  · subst hb
    rw [mj_ws_at (by rw [hs]; exact h), List.getElem?_set_self (by rw [mj_ws_len]; exact hl)]
  · rw [List.getElem?_set_ne (Ne.symm hb)]
    cases hk : S.1[b]? with
    | none =>
      have h1 : S.1.length ≤ b := List.getElem?_eq_none_iff.mp hk
      rw [List.getElem?_eq_none_iff.mpr (by rw [mj_ws_len, hs]; exact h1), List.getElem?_eq_none_iff.mpr (by rw [mj_ws_len]; exact h1)]
    | some kb =>
      rw [mj_ws_at (by rw [hs]; exact hk), mj_ws_at hk]
      obtain ⟨e1, e2, e3⟩ := ho b hb
      simp only [mj_ent, mj_fv, e1, e2, e3]
/-- the addresses of cells that are there alone matter -/
theorem mj_ws_ad {ad' : Nat → Nat} (hw : mj_wS S) (h : ∀ q, mj_wr S.1.length q → ad' q = ad q) : mj_ws ft ka ad' S = mj_ws ft ka ad S := by
  apply List.ext_getElem?
  intro b
  cases hk : S.1[b]? with
  | none =>
    have h1 : S.1.length ≤ b := List.getElem?_eq_none_iff.mp hk
    rw [List.getElem?_eq_none_iff.mpr (by rw [mj_ws_len]; exact h1), List.getElem?_eq_none_iff.mpr (by rw [mj_ws_len]; exact h1)]
  | some kb =>
    have hl := (List.getElem?_eq_some_iff.mp hk).1
    have key : ∀ j t, mj_fv ad' S b j t = mj_fv ad S b j t := by
      intro j t
      unfold mj_fv
      split
      · split
        · rename_i q hq
          rw [h q (hw.2 _ _ _ hq)]
        · rfl
      · rfl
    rw [mj_ws_at hk, mj_ws_at hk, h b (Or.inl hl)]
    simp only [mj_ent, key]
/-- a new cell -/
theorem mj_ws_new {k n q : Nat} (hw : mj_wS S) (hn : S.2.2.2.2.1 + 1 ≤ 601024 ∧ S.2.2.2.2.2 + n ≤ 7293034) :
    let S' : mj_S := (S.1 ++ [(k, n)], mj_row S.2.1 S.1.length (fun _ => 0), mj_row S.2.2.1 S.1.length (fun _ => 0), mj_row S.2.2.2.1 S.1.length (fun _ => none), S.2.2.2.2.1 + 1, S.2.2.2.2.2 + n)
    let ad' : Nat → Nat := fun i => if i = S.1.length then q else ad i
    mj_ws ft ka ad' S' = mj_ws ft ka ad S ++ [(q, mj_ent ft ka ad' S' S.1.length (k, n))] ∧ mj_wS S' ∧ ∀ i, mj_wr S.1.length i → ad' i = ad i := by
  intro S' ad'
  have hlen : S'.1.length = S.1.length + 1 := by simp [S']
  have had : ∀ i, mj_wr S.1.length i → ad' i = ad i := by
    intro i hi
    have : i ≠ S.1.length := by rcases hi with h | h <;> have := hw.1.1 <;> omega
    simp only [ad', if_neg this]
  refine ⟨?_, ⟨⟨by rw [hlen]; have := hw.1.2.1; omega, by rw [hlen]; have := hw.1.2.1; show S.1.length + 1 ≤ S.2.2.2.2.1 + 1; omega, hn.1, hn.2⟩, ?_⟩, had⟩
  · apply List.ext_getElem?
    intro b
    by_cases hb : b < S.1.length
    · rw [List.getElem?_append_left (by rw [mj_ws_len]; exact hb)]
      have hk : S.1[b]? = some S.1[b] := List.getElem?_eq_getElem hb
      have hk' : S'.1[b]? = some S.1[b] := by simp only [S', List.getElem?_append_left hb]; exact hk
      rw [mj_ws_at hk', mj_ws_at hk, had b (Or.inl hb)]
      have hne : b ≠ S.1.length := by omega
      have key : ∀ j t, mj_fv ad' S' b j t = mj_fv ad S b j t := by
        intro j t
        simp only [mj_fv, S', mj_row, if_neg hne]
        split
        · split
          · rename_i q hq
            rw [had q (hw.2 _ _ _ hq)]
          · rfl
        · rfl
      simp only [mj_ent, key]
      simp only [S', mj_row_ne hne]
    · by_cases hb2 : b = S.1.length
      · subst hb2
        have hk' : S'.1[S.1.length]? = some (k, n) := by simp [S']
        rw [mj_ws_at hk', List.getElem?_append_right (by rw [mj_ws_len]; exact Nat.le_refl _), mj_ws_len, Nat.sub_self]
        simp [ad']
      · rw [List.getElem?_eq_none_iff.mpr (by rw [mj_ws_len, hlen]; omega), List.getElem?_eq_none_iff.mpr (by simp [mj_ws_len]; omega)]
  · intro a j q hq
    simp only [S', mj_row] at hq
    split at hq
    · cases hq
    · rcases hw.2 _ _ _ hq with h | h
      · exact Or.inl (by rw [hlen]; omega)
      · exact Or.inr h
end MJWS
