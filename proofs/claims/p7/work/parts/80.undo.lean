/-! WHAT GROUPS BRING BACK, as numbers: entries i with a slot sl i, its level le i and value va i then; undone from the top, unless the slot is at level 0 -/
def ud {α : Type} (f : Nat → α) (x : Nat) (v : α) : Nat → α := fun y => if y = x then v else f y
abbrev us_S : Type := (Nat → Int32) × (Nat → Nat)
def us_1 (sl le : Nat → Nat) (va : Nat → Int32) (i : Nat) (s : us_S) : us_S := if s.2 (sl i) = 0 then s else (ud s.1 (sl i) (va i), ud s.2 (sl i) (le i))
/-- the entries from k + n - 1 down to k -/
def us_n (sl le : Nat → Nat) (va : Nat → Int32) : Nat → Nat → us_S → us_S
  | 0, _, s => s
  | n + 1, k, s => us_n sl le va n k (us_1 sl le va (k + n) s)
section MJUS
variable {sl le : Nat → Nat} {va : Nat → Int32}
theorem ud_at {α : Type} {f : Nat → α} {x : Nat} {v : α} : ud f x v x = v := if_pos rfl
theorem ud_ne {α : Type} {f : Nat → α} {x y : Nat} {v : α} (h : y ≠ x) : ud f x v y = f y := if_neg h
theorem us_add : ∀ (b a k : Nat) (s : us_S), us_n sl le va (a + b) k s = us_n sl le va a k (us_n sl le va b (k + a) s)
  | 0, a, k, s => rfl
  | b + 1, a, k, s => by
    show us_n sl le va (a + b) k (us_1 sl le va (k + (a + b)) s) = us_n sl le va a k (us_n sl le va b (k + a) (us_1 sl le va (k + a + b) s))
    rw [us_add b a k, Nat.add_assoc]
/-- the entries' own numbers alone count -/
theorem us_eq {sl' le' : Nat → Nat} {va' : Nat → Int32} : ∀ (n k : Nat) (s : us_S), (∀ i, k ≤ i → i < k + n → sl' i = sl i ∧ le' i = le i ∧ va' i = va i) → us_n sl' le' va' n k s = us_n sl le va n k s
  | 0, _, _, _ => rfl
  | n + 1, k, s, h => by
    show us_n sl' le' va' n k (us_1 sl' le' va' (k + n) s) = us_n sl le va n k (us_1 sl le va (k + n) s)
    have h1 : us_1 sl' le' va' (k + n) s = us_1 sl le va (k + n) s := by
      obtain ⟨a, b, c⟩ := h (k + n) (by omega) (by omega)
      unfold us_1
      rw [a, b, c]
    rw [h1]
    exact us_eq n k _ (fun i a b => h i a (by omega))
/-- a slot that has an entry there, and isn't at level 0: its value now doesn't matter -/
theorem us_free {x : Nat} : ∀ (n k : Nat) (V1 V2 : Nat → Int32) (Lv : Nat → Nat), (∀ y, y ≠ x → V1 y = V2 y) → Lv x ≠ 0 → (∃ i, k ≤ i ∧ i < k + n ∧ sl i = x) → us_n sl le va n k (V1, Lv) = us_n sl le va n k (V2, Lv)
  | 0, k, _, _, _, _, _, h => by
    obtain ⟨i, a, b, -⟩ := h
    omega
  | n + 1, k, V1, V2, Lv, hV, hL, h => by
    show us_n sl le va n k (us_1 sl le va (k + n) (V1, Lv)) = us_n sl le va n k (us_1 sl le va (k + n) (V2, Lv))
    by_cases hx : sl (k + n) = x
    · have : us_1 sl le va (k + n) (V1, Lv) = us_1 sl le va (k + n) (V2, Lv) := by
        unfold us_1
        rw [hx, if_neg hL, if_neg hL]
        congr 1
        funext y
        by_cases hy : y = x
        · rw [hy, ud_at, ud_at]
        · rw [ud_ne hy, ud_ne hy]
          exact hV y hy
      rw [this]
    · have hi : ∃ i, k ≤ i ∧ i < k + n ∧ sl i = x := by
        obtain ⟨i, a, b, c⟩ := h
        refine ⟨i, a, ?_, c⟩
        by_cases he : i = k + n
        · rw [he] at c
          exact absurd c hx
        · omega
      unfold us_1
      by_cases h0 : Lv (sl (k + n)) = 0
      · rw [if_pos h0, if_pos h0]
        exact us_free n k V1 V2 Lv hV hL hi
      · rw [if_neg h0, if_neg h0]
        refine us_free n k _ _ _ (fun y hy => ?_) ?_ hi
        · by_cases hy' : y = sl (k + n)
          · rw [hy', ud_at, ud_at]
          · rw [ud_ne hy', ud_ne hy']
            exact hV y hy
        · rw [ud_ne (fun e => hx e.symm)]
          exact hL
/-- a slot set globally keeps its value, all others go as they went -/
def us_R (x : Nat) (w : Int32) (s t : us_S) : Prop := (∀ y, y ≠ x → s.1 y = t.1 y ∧ s.2 y = t.2 y) ∧ s.1 x = w ∧ s.2 x = 0
theorem us_R1 {x i : Nat} {w : Int32} {s t : us_S} (h : us_R x w s t) : us_R x w (us_1 sl le va i s) (us_1 sl le va i t) := by
  obtain ⟨h1, h2, h3⟩ := h
  unfold us_1
  by_cases hx : sl i = x
  · rw [if_pos (by rw [hx]; exact h3)]
    split
    · exact ⟨h1, h2, h3⟩
    · refine ⟨fun y hy => ?_, h2, h3⟩
      have hy' : y ≠ sl i := by rw [hx]; exact hy
      exact ⟨(h1 y hy).1.trans (ud_ne hy').symm, (h1 y hy).2.trans (ud_ne hy').symm⟩
  · have hl := (h1 (sl i) hx).2
    by_cases h0 : t.2 (sl i) = 0
    · rw [if_pos (hl.trans h0), if_pos h0]
      exact ⟨h1, h2, h3⟩
    · rw [if_neg (by rw [hl]; exact h0), if_neg h0]
      refine ⟨fun y hy => ?_, ?_, ?_⟩
      · by_cases hy' : y = sl i
        · rw [hy']
          exact ⟨ud_at.trans ud_at.symm, ud_at.trans ud_at.symm⟩
        · exact ⟨(ud_ne hy').trans ((h1 y hy).1.trans (ud_ne hy').symm), (ud_ne hy').trans ((h1 y hy).2.trans (ud_ne hy').symm)⟩
      · show ud s.1 (sl i) (va i) x = w
        rw [ud_ne (fun e => hx e.symm)]
        exact h2
      · show ud s.2 (sl i) (le i) x = 0
        rw [ud_ne (fun e => hx e.symm)]
        exact h3
theorem us_Rn {x : Nat} {w : Int32} : ∀ (n k : Nat) (s t : us_S), us_R x w s t → us_R x w (us_n sl le va n k s) (us_n sl le va n k t)
  | 0, _, _, _, h => h
  | n + 1, k, s, t, h => us_Rn n k _ _ (us_R1 h)
theorem us_glob {x : Nat} {w : Int32} (n k : Nat) (V : Nat → Int32) (Lv : Nat → Nat) : us_R x w (us_n sl le va n k (ud V x w, ud Lv x 0)) (us_n sl le va n k (V, Lv)) :=
  us_Rn n k _ _ ⟨fun y hy => ⟨ud_ne hy, ud_ne hy⟩, ud_at, ud_at⟩
/-- an entry pushed and undone: as before -/
theorem us_push {x : Nat} {w : Int32} {n k g : Nat} {V : Nat → Int32} {Lv : Nat → Nat} (hg : g ≠ 0) : us_n (ud sl (k + n) x) (ud le (k + n) (Lv x)) (ud va (k + n) (V x)) (n + 1) k (ud V x w, ud Lv x g) = us_n sl le va n k (V, Lv) := by
  show us_n _ _ _ n k (us_1 _ _ _ (k + n) _) = _
  have : us_1 (ud sl (k + n) x) (ud le (k + n) (Lv x)) (ud va (k + n) (V x)) (k + n) (ud V x w, ud Lv x g) = (V, Lv) := by
    unfold us_1
    rw [ud_at, ud_at, ud_at]
    rw [if_neg (by show ud Lv x g x ≠ 0; rw [ud_at]; exact hg)]
    refine Prod.ext (funext fun y => ?_) (funext fun y => ?_)
    · show ud (ud V x w) x (V x) y = V y
      by_cases hy : y = x
      · rw [hy, ud_at]
      · rw [ud_ne hy, ud_ne hy]
    · show ud (ud Lv x g) x (Lv x) y = Lv y
      by_cases hy : y = x
      · rw [hy, ud_at]
      · rw [ud_ne hy, ud_ne hy]
  rw [this]
  exact us_eq n k _ (fun i a b => ⟨ud_ne (by omega), ud_ne (by omega), ud_ne (by omega)⟩)
end MJUS
