/-! THE LEVELS' TABLES out of the class's saves -/
/-- where group g + 1's entries begin; s behind the last -/
def lv_g (gs : Nat → Nat) (G s g : Nat) : Nat := if g < G then gs g else s
/-- the table of level g -/
def lv_T (V : Nat → Int32) (Lv sl le : Nat → Nat) (va : Nat → Int32) (gs : Nat → Nat) (G s g : Nat) : Nat → Int32 := (us_n sl le va (s - lv_g gs G s g) (lv_g gs G s g) (V, Lv)).1
def lv_I (Lv sl le gs : Nat → Nat) (G s : Nat) : Prop := (∀ g, g < G → lv_g gs G s g ≤ lv_g gs G s (g + 1)) ∧ (∀ x, Lv x ≤ G) ∧ (∀ x h, Lv x = h + 1 → ∃ i, lv_g gs G s h ≤ i ∧ i < lv_g gs G s (h + 1) ∧ sl i = x) ∧
  ∀ i g, g < G → lv_g gs G s g ≤ i → i < lv_g gs G s (g + 1) → le i ≤ g ∧ ∀ h, le i = h + 1 → ∃ j, lv_g gs G s h ≤ j ∧ j < lv_g gs G s (h + 1) ∧ sl j = sl i
section MJLV
variable {V : Nat → Int32} {Lv sl le : Nat → Nat} {va : Nat → Int32} {gs : Nat → Nat} {G s : Nat}
theorem lv_g_G : lv_g gs G s G = s := if_neg (Nat.lt_irrefl G)
theorem lv_mono (h : lv_I Lv sl le gs G s) : ∀ (n g : Nat), g + n ≤ G → lv_g gs G s g ≤ lv_g gs G s (g + n)
  | 0, g, _ => Nat.le_refl _
  | n + 1, g, hn => Nat.le_trans (lv_mono h n g (by omega)) (h.1 (g + n) (by omega))
theorem lv_le (h : lv_I Lv sl le gs G s) {g : Nat} (hg : g ≤ G) : lv_g gs G s g ≤ s := by
  have := lv_mono h (G - g) g (by omega)
  rw [show g + (G - g) = G by omega, lv_g_G] at this
  exact this
theorem lv_T_G : lv_T V Lv sl le va gs G s G = V := by
  unfold lv_T
  rw [lv_g_G, Nat.sub_self]
  rfl
/-- set in the innermost group, once more -/
theorem lv_set1 (h : lv_I Lv sl le gs G s) {x : Nat} {w : Int32} (hx : Lv x = G) {g : Nat} (hg : g < G) : lv_T (ud V x w) Lv sl le va gs G s g = lv_T V Lv sl le va gs G s g := by
  unfold lv_T
  obtain ⟨h0, rfl⟩ : ∃ h0, G = h0 + 1 := ⟨G - 1, by omega⟩
  obtain ⟨i, a, b, c⟩ := h.2.2.1 x h0 hx
  rw [lv_g_G] at b
  have m1 := lv_mono h (h0 - g) g (by omega)
  rw [show g + (h0 - g) = h0 by omega] at m1
  rw [us_free (x := x) _ _ (ud V x w) V Lv (fun y hy => ud_ne hy) (by omega) ⟨i, by omega, by omega, c⟩]
/-- set in the innermost group for the first time: an entry more -/
theorem lv_set2 (h : lv_I Lv sl le gs G s) {x : Nat} {w : Int32} (hx : Lv x ≠ G) {g : Nat} (hg : g < G) : lv_T (ud V x w) (ud Lv x G) (ud sl s x) (ud le s (Lv x)) (ud va s (V x)) gs G (s + 1) g = lv_T V Lv sl le va gs G s g := by
  have e : lv_g gs G (s + 1) g = lv_g gs G s g := by unfold lv_g; rw [if_pos hg, if_pos hg]
  have hle := lv_le h (Nat.le_of_lt hg)
  unfold lv_T
  rw [e]
  have := us_push (sl := sl) (le := le) (va := va) (x := x) (w := w) (n := s - lv_g gs G s g) (k := lv_g gs G s g) (g := G) (V := V) (Lv := Lv) (by omega)
  rw [show lv_g gs G s g + (s - lv_g gs G s g) = s by omega] at this
  rw [show s + 1 - lv_g gs G s g = s - lv_g gs G s g + 1 by omega, this]
theorem lv_set2I (h : lv_I Lv sl le gs G s) {x : Nat} (hx : Lv x ≠ G) : lv_I (ud Lv x G) (ud sl s x) (ud le s (Lv x)) gs G (s + 1) := by
  have hG : 0 < G := by
    have := h.2.1 x
    omega
  have e : ∀ g, g < G → lv_g gs G (s + 1) g = lv_g gs G s g := fun g hg => by unfold lv_g; rw [if_pos hg, if_pos hg]
  have eG : lv_g gs G (s + 1) G = s + 1 := lv_g_G
  obtain ⟨h1, h2, h3, h4⟩ := h
  have up : ∀ y k, k < G → (∃ i, lv_g gs G s k ≤ i ∧ i < lv_g gs G s (k + 1) ∧ sl i = y) → ∃ i, lv_g gs G (s + 1) k ≤ i ∧ i < lv_g gs G (s + 1) (k + 1) ∧ ud sl s x i = y := by
    intro y k hk hi
    obtain ⟨i, a, b, c⟩ := hi
    have hi' : i < s := Nat.lt_of_lt_of_le b (lv_le ⟨h1, h2, h3, h4⟩ (by omega))
    refine ⟨i, by rw [e k hk]; exact a, ?_, by rw [ud_ne (by omega)]; exact c⟩
    by_cases hk1 : k + 1 < G
    · rw [e _ hk1]
      exact b
    · rw [show k + 1 = G by omega, eG]
      omega
  refine ⟨fun g hg => ?_, fun y => ?_, fun y k hy => ?_, fun i g hg a b => ?_⟩
  · by_cases hg1 : g + 1 < G
    · rw [e g hg, e _ hg1]
      exact h1 g hg
    · rw [e g hg, show g + 1 = G by omega, eG]
      exact Nat.le_succ_of_le (lv_le ⟨h1, h2, h3, h4⟩ (by omega))
  · by_cases hy : y = x
    · rw [hy, ud_at]
      exact Nat.le_refl _
    · rw [ud_ne hy]
      exact h2 y
  · by_cases hyx : y = x
    · rw [hyx, ud_at] at hy
      refine ⟨s, ?_, ?_, by rw [ud_at]; exact hyx.symm⟩
      · rw [e k (by omega)]
        exact lv_le ⟨h1, h2, h3, h4⟩ (by omega)
      · rw [← hy, eG]
        omega
    · rw [ud_ne hyx] at hy
      exact up y k (by have := h2 y; omega) (h3 y k hy)
  · by_cases his : i = s
    · have hgG : g + 1 = G := by
        by_cases hg1 : g + 1 < G
        · rw [e _ hg1, his] at b
          have := lv_le ⟨h1, h2, h3, h4⟩ (show g + 1 ≤ G by omega)
          omega
        · omega
      rw [his, ud_at, ud_at]
      refine ⟨by have := h2 x; omega, fun k hk => up x k (by have := h2 x; omega) (h3 x k hk)⟩
    · rw [ud_ne his]
      have hb : i < lv_g gs G s (g + 1) := by
        by_cases hg1 : g + 1 < G
        · rw [e _ hg1] at b
          exact b
        · rw [show g + 1 = G by omega, eG] at b
          rw [show g + 1 = G by omega, lv_g_G]
          omega
      rw [e g hg] at a
      obtain ⟨p1, p2⟩ := h4 i g hg a hb
      refine ⟨p1, fun k hk => ?_⟩
      rw [ud_ne his]
      exact up _ k (by omega) (p2 k hk)
/-- set globally -/
theorem lv_glob {x : Nat} {w : Int32} (g : Nat) : lv_T (ud V x w) (ud Lv x 0) sl le va gs G s g = ud (lv_T V Lv sl le va gs G s g) x w := by
  funext y
  have h := us_glob (sl := sl) (le := le) (va := va) (x := x) (w := w) (s - lv_g gs G s g) (lv_g gs G s g) V Lv
  by_cases hy : y = x
  · rw [hy, ud_at]
    exact h.2.1
  · rw [ud_ne hy]
    exact (h.1 y hy).1
theorem lv_globI (h : lv_I Lv sl le gs G s) {x : Nat} : lv_I (ud Lv x 0) sl le gs G s := by
  obtain ⟨h1, h2, h3, h4⟩ := h
  refine ⟨h1, fun y => ?_, fun y k hy => ?_, h4⟩
  · by_cases hy : y = x
    · rw [hy, ud_at]
      exact Nat.zero_le _
    · rw [ud_ne hy]
      exact h2 y
  · by_cases hyx : y = x
    · rw [hyx, ud_at] at hy
      cases hy
    · rw [ud_ne hyx] at hy
      exact h3 y k hy
/-- a group opened -/
theorem lv_open_g (g : Nat) (hg : g ≤ G) : lv_g (ud gs G s) (G + 1) s g = lv_g gs G s g := by
  unfold lv_g
  rw [if_pos (by omega)]
  by_cases h : g = G
  · rw [h, ud_at, if_neg (Nat.lt_irrefl _)]
  · rw [ud_ne h, if_pos (by omega)]
theorem lv_open (g : Nat) (hg : g ≤ G) : lv_T V Lv sl le va (ud gs G s) (G + 1) s g = lv_T V Lv sl le va gs G s g := by
  unfold lv_T
  rw [lv_open_g g hg]
theorem lv_openI (h : lv_I Lv sl le gs G s) : lv_I Lv sl le (ud gs G s) (G + 1) s := by
  obtain ⟨h1, h2, h3, h4⟩ := h
  have eG : lv_g (ud gs G s) (G + 1) s (G + 1) = s := lv_g_G
  refine ⟨fun g hg => ?_, fun y => Nat.le_succ_of_le (h2 y), fun y k hy => ?_, fun i g hg a b => ?_⟩
  · by_cases h : g = G
    · rw [h, eG, lv_open_g G (Nat.le_refl _), lv_g_G]
      exact Nat.le_refl _
    · rw [lv_open_g g (by omega), lv_open_g (g + 1) (by omega)]
      exact h1 g (by omega)
  · have hk := h2 y
    rw [lv_open_g k (by omega), lv_open_g (k + 1) (by omega)]
    exact h3 y k hy
  · by_cases h : g = G
    · rw [h, eG] at b
      rw [h, lv_open_g G (Nat.le_refl _), lv_g_G] at a
      omega
    · rw [lv_open_g g (by omega)] at a
      rw [lv_open_g (g + 1) (by omega)] at b
      obtain ⟨p1, p2⟩ := h4 i g (by omega) a b
      refine ⟨p1, fun k hk => ?_⟩
      rw [lv_open_g k (by omega), lv_open_g (k + 1) (by omega)]
      exact p2 k hk
/-- a group closed -/
theorem lv_close_g {H : Nat} (g : Nat) (hg : g ≤ H) : lv_g gs H (gs H) g = lv_g gs (H + 1) s g := by
  unfold lv_g
  rw [if_pos (show g < H + 1 by omega)]
  by_cases h : g = H
  · rw [h, if_neg (Nat.lt_irrefl _)]
  · rw [if_pos (by omega)]
theorem lv_close {H : Nat} (h : lv_I Lv sl le gs (H + 1) s) {g : Nat} (hg : g ≤ H) : lv_T (us_n sl le va (s - gs H) (gs H) (V, Lv)).1 (us_n sl le va (s - gs H) (gs H) (V, Lv)).2 sl le va gs H (gs H) g = lv_T V Lv sl le va gs (H + 1) s g := by
  have eH : lv_g gs (H + 1) s H = gs H := by unfold lv_g; rw [if_pos (by omega)]
  have m1 := lv_mono h (H - g) g (by omega)
  rw [show g + (H - g) = H by omega, eH] at m1
  have m2 := lv_le h (show H ≤ H + 1 by omega)
  rw [eH] at m2
  unfold lv_T
  rw [lv_close_g (s := s) g hg]
  have := us_add (sl := sl) (le := le) (va := va) (s - gs H) (gs H - lv_g gs (H + 1) s g) (lv_g gs (H + 1) s g) (V, Lv)
  rw [show gs H - lv_g gs (H + 1) s g + (s - gs H) = s - lv_g gs (H + 1) s g by omega, show lv_g gs (H + 1) s g + (gs H - lv_g gs (H + 1) s g) = gs H by omega] at this
  rw [this]
theorem us_low {E : Nat → Nat → Prop} {H k : Nat} : ∀ (n : Nat) (V : Nat → Int32) (Lv : Nat → Nat), (∀ x, (Lv x ≤ H ∧ ∀ h, Lv x = h + 1 → E h x) ∨ (Lv x = H + 1 ∧ ∃ i, k ≤ i ∧ i < k + n ∧ sl i = x)) → (∀ i, k ≤ i → i < k + n → le i ≤ H ∧ ∀ h, le i = h + 1 → E h (sl i)) → ∀ x, (us_n sl le va n k (V, Lv)).2 x ≤ H ∧ ∀ h, (us_n sl le va n k (V, Lv)).2 x = h + 1 → E h x
  | 0, V, Lv, h1, _, x => by
    rcases h1 x with h | ⟨-, i, a, b, -⟩
    · exact h
    · omega
  | n + 1, V, Lv, h1, h2, x => by
    show (us_n sl le va n k (us_1 sl le va (k + n) (V, Lv))).2 x ≤ H ∧ ∀ h, (us_n sl le va n k (us_1 sl le va (k + n) (V, Lv))).2 x = h + 1 → E h x
    have h2' : ∀ i, k ≤ i → i < k + n → le i ≤ H ∧ ∀ h, le i = h + 1 → E h (sl i) := fun i a b => h2 i a (by omega)
    unfold us_1
    by_cases h0 : Lv (sl (k + n)) = 0
    · rw [if_pos h0]
      refine us_low n V Lv (fun y => ?_) h2' x
      rcases h1 y with h | ⟨hL, i, a, b, c⟩
      · exact Or.inl h
      · refine Or.inr ⟨hL, i, a, ?_, c⟩
        by_cases hi : i = k + n
        · rw [hi] at c
          rw [c] at h0
          omega
        · omega
    · rw [if_neg h0]
      refine us_low n _ _ (fun y => ?_) h2' x
      by_cases hy : y = sl (k + n)
      · rw [hy, ud_at]
        exact Or.inl (h2 (k + n) (by omega) (by omega))
      · rw [ud_ne hy]
        rcases h1 y with h | ⟨hL, i, a, b, c⟩
        · exact Or.inl h
        · refine Or.inr ⟨hL, i, a, ?_, c⟩
          by_cases hi : i = k + n
          · rw [hi] at c
            exact absurd c.symm hy
          · omega
theorem lv_closeI {H : Nat} (h : lv_I Lv sl le gs (H + 1) s) : lv_I (us_n sl le va (s - gs H) (gs H) (V, Lv)).2 sl le gs H (gs H) := by
  have eH : lv_g gs (H + 1) s H = gs H := by unfold lv_g; rw [if_pos (by omega)]
  have e1 : lv_g gs (H + 1) s (H + 1) = s := lv_g_G
  have m2 := lv_le h (show H ≤ H + 1 by omega)
  rw [eH] at m2
  obtain ⟨h1, h2, h3, h4⟩ := h
  have low := us_low (sl := sl) (le := le) (va := va) (E := fun k x => ∃ i, lv_g gs (H + 1) s k ≤ i ∧ i < lv_g gs (H + 1) s (k + 1) ∧ sl i = x) (H := H) (k := gs H) (s - gs H) V Lv (fun x => by
    by_cases hx : Lv x = H + 1
    · obtain ⟨i, a, b, c⟩ := h3 x H hx
      rw [eH] at a
      rw [e1] at b
      exact Or.inr ⟨hx, i, a, by omega, c⟩
    · exact Or.inl ⟨by have := h2 x; omega, fun k hk => h3 x k hk⟩) (fun i a b => h4 i H (by omega) (by rw [eH]; exact a) (by rw [e1]; omega))
  refine ⟨fun g hg => ?_, fun y => (low y).1, fun y k hy => ?_, fun i g hg a b => ?_⟩
  · rw [lv_close_g (s := s) g (by omega), lv_close_g (s := s) (g + 1) (by omega)]
    exact h1 g (by omega)
  · have hk := (low y).1
    rw [lv_close_g (s := s) k (by omega), lv_close_g (s := s) (k + 1) (by omega)]
    exact (low y).2 k hy
  · rw [lv_close_g (s := s) g (by omega)] at a
    rw [lv_close_g (s := s) (g + 1) (by omega)] at b
    obtain ⟨p1, p2⟩ := h4 i g (by omega) a b
    refine ⟨p1, fun k hk => ?_⟩
    rw [lv_close_g (s := s) k (by omega), lv_close_g (s := s) (k + 1) (by omega)]
    exact p2 k hk
end MJLV
