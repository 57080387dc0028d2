/-! THE START: what holds where the law is entered -/
def mj_fc : List Cond := flatC (.and given_1 narrow_1)
def mj_vb (own : String) (k : Nat) : Term := .field (.string own k) "java/lang/String" "value" "[B"
def mj_le (own : String) (k : Nat) : List Int32 → Nat → List Cond → Bool
  | [], _, _ => true
  | _ :: _, _, [] => false
  | t :: ts, j, c :: cs => decide (c = .eq (.elem (mj_vb own k) (.int (Int32.ofNat j))) (.int t)) && mj_le own k ts (j + 1) cs
theorem mj_le_ok {own : String} {k : Nat} : ∀ (ts : List Int32) (j : Nat) (cs : List Cond), mj_le own k ts j cs = true → ∀ i, i < ts.length → Cond.eq (.elem (mj_vb own k) (.int (Int32.ofNat (j + i)))) (.int (ts.getD i 0)) ∈ cs
  | [], _, _, _, i, hi => absurd hi (Nat.not_lt_zero i)
  | _ :: _, _, [], h, _, _ => by
    unfold mj_le at h
    cases h
  | t :: ts, j, c :: cs, h, i, hi => by
    unfold mj_le at h
    rw [Bool.and_eq_true, decide_eq_true_eq] at h
    cases i with
    | zero =>
      rw [h.1]
      exact List.mem_cons_self
    | succ i =>
      have := mj_le_ok ts (j + 1) cs h.2 i (Nat.lt_of_succ_lt_succ hi)
      rw [show j + 1 + i = j + (i + 1) by omega] at this
      exact List.mem_cons_of_mem _ this
def mj_lt (own : String) (k p : Nat) (tx : List Int32) : Bool := decide (mj_fc[p]? = some (.exactly (.string own k) "java/lang/String")) && decide (mj_fc[p + 1]? = some (.eq (.field (.string own k) "java/lang/String" "coder" "B") (.int 0))) && decide (mj_fc[p + 2]? = some (.arrayOf (mj_vb own k) .byte)) && decide (mj_fc[p + 3]? = some (.eq (.length (mj_vb own k)) (.int (Int32.ofNat tx.length)))) && mj_le own k tx 0 (mj_fc.drop (p + 4))
theorem mj_txt_of {s : State} {args : Array Value} (hfl : ∀ w ∈ mj_fc, w.before args s = true) {own : String} {k p : Nat} {tx : List Int32} (h : mj_lt own k p tx = true) (hn : tx.length < 2 ^ 31) : ∃ ad : Nat, (Term.string own k).eval args s none [] s = some (.ref ad) ∧ mj_Txt s ad tx := by
  unfold mj_lt at h
  simp only [Bool.and_eq_true, decide_eq_true_eq] at h
  obtain ⟨⟨⟨⟨h1, h2⟩, h3⟩, h4⟩, h5⟩ := h
  obtain ⟨adK, adV, q, he⟩ := vk_Sof (args := args) (s := s) (N := 1) (tm := fun _ => .string own k) (len := [tx.length]) (byt := [tx]) (A := fun q => s.heap.size ≤ q)
    (fun i hi => by obtain rfl : i = 0 := by omega
                    exact hn)
    (fun i _ => hfl _ (List.mem_of_getElem? h1)) (fun i _ => hfl _ (List.mem_of_getElem? h2)) (fun i _ => hfl _ (List.mem_of_getElem? h3))
    (fun i hi => by obtain rfl : i = 0 := by omega
                    exact hfl _ (List.mem_of_getElem? h4))
    (fun i hi j hj => by obtain rfl : i = 0 := by omega
                         have := mj_le_ok tx 0 _ h5 j hj
                         rw [Nat.zero_add] at this
                         exact hfl _ (List.mem_of_mem_drop this))
    (fun i j hi hj hij => absurd (show i = j by omega) hij) (fun a ha => Nat.not_le.mpr ha)
  have q0 := q.1 0 (by decide)
  exact ⟨adK 0, he 0 (by decide), adV 0, q0.1, q0.2.1, q0.2.2.1, q0.2.2.2⟩
def mj_t1 : List Int32 := [105, 118, 120, 108, 99, 100, 109]
def mj_t2 : List Int32 := [101, 120, 112, 97, 110, 100, 97, 102, 116, 101, 114, 32, 110, 111, 101, 120, 112, 97, 110, 100, 32, 99, 115, 110, 97, 109, 101, 32, 115, 116, 114, 105, 110, 103, 32, 110, 117, 109, 98, 101, 114, 32, 114, 111, 109, 97, 110, 110, 117, 109, 101, 114, 97, 108, 32, 116, 104, 101, 32, 105, 102, 32, 105, 102, 99, 97, 116, 32, 105, 102, 120, 32, 105, 102, 110, 117, 109, 32, 105, 102, 111, 100, 100, 32, 105, 102, 116, 114, 117, 101, 32, 105, 102, 102, 97, 108, 115, 101, 32, 105, 102, 99, 97, 115, 101, 32, 101, 108, 115, 101, 32, 111, 114, 32, 102, 105, 32, 114, 101, 108, 97, 120, 32, 112, 97, 114, 32, 98, 101, 103, 105, 110, 103, 114, 111, 117, 112, 32, 101, 110, 100, 103, 114, 111, 117, 112, 32, 101, 110, 100, 99, 115, 110, 97, 109, 101, 32, 101, 110, 100, 32, 100, 101, 102, 32, 101, 100, 101, 102, 32, 103, 100, 101, 102, 32, 120, 100, 101, 102, 32, 108, 101, 116, 32, 99, 104, 97, 114, 100, 101, 102, 32, 99, 111, 117, 110, 116, 32, 99, 97, 116, 99, 111, 100, 101, 32, 97, 100, 118, 97, 110, 99, 101, 32, 109, 117, 108, 116, 105, 112, 108, 121, 32, 100, 105, 118, 105, 100, 101, 32, 103, 108, 111, 98, 97, 108, 32]
def mj_t3 : List Int32 := [101, 120, 112, 97, 110, 100, 97, 102, 116, 101, 114, 32, 110, 111, 101, 120, 112, 97, 110, 100, 32, 99, 115, 110, 97, 109, 101, 32, 115, 116, 114, 105, 110, 103, 32, 110, 117, 109, 98, 101, 114, 32, 114, 111, 109, 97, 110, 110, 117, 109, 101, 114, 97, 108, 32, 116, 104, 101, 32, 105, 102, 32, 105, 102, 99, 97, 116, 32, 105, 102, 120, 32, 105, 102, 110, 117, 109, 32, 105, 102, 111, 100, 100, 32, 105, 102, 116, 114, 117, 101, 32, 105, 102, 102, 97, 108, 115, 101, 32, 105, 102, 99, 97, 115, 101, 32, 101, 108, 115, 101, 32, 111, 114, 32, 102, 105, 32, 114, 101, 108, 97, 120, 32, 112, 97, 114, 32, 98, 101, 103, 105, 110, 103, 114, 111, 117, 112, 32, 101, 110, 100, 103, 114, 111, 117, 112, 32, 101, 110, 100, 99, 115, 110, 97, 109, 101, 32, 100, 101, 102, 32, 101, 100, 101, 102, 32, 103, 100, 101, 102, 32, 120, 100, 101, 102, 32, 108, 101, 116, 32, 99, 104, 97, 114, 100, 101, 102, 32, 99, 111, 117, 110, 116, 32, 99, 97, 116, 99, 111, 100, 101, 32, 97, 100, 118, 97, 110, 99, 101, 32, 109, 117, 108, 116, 105, 112, 108, 121, 32, 100, 105, 118, 105, 100, 101, 32, 103, 108, 111, 98, 97, 108, 32, 101, 110, 100, 32]
theorem mj_l1 : mj_lt "MacroPress$Expander" 204 342 mj_t1 = true := by decide +kernel
theorem mj_l2 : mj_lt "MacroPress$Names" 10 50 mj_t2 = true := by decide +kernel
theorem mj_l3 : mj_lt "MacroPressModel" 137 400 mj_t3 = true := by decide +kernel
def mj_tok (tx : List Int32) : Bool := Nat.blt tx.length 1000 && (0 :: tx).all fun x => decide (((x &&& 255).toUInt32 % 65536).toInt32 = x) && decide (x.toUInt32.toUInt16.toUInt32.toInt32 = x)
theorem mj_toks : [mj_t1, mj_t2, mj_t3].all mj_tok = true := by decide +kernel
theorem mj_getD0 {tx : List Int32} (j : Nat) : tx.getD j 0 ∈ (0 : Int32) :: tx := by
  rw [List.getD_eq_getElem?_getD]
  cases h : tx[j]? with
  | none => exact List.mem_cons_self
  | some x => exact List.mem_cons_of_mem _ (List.mem_of_getElem? h)
theorem mj_tok_ok {tx : List Int32} (h : mj_tok tx = true) : tx.length < 2 ^ 31 ∧ ∀ j, ((tx.getD j 0 &&& 255).toUInt32 % 65536).toInt32 = tx.getD j 0 ∧ narrow .char (.int (tx.getD j 0)) = .int (tx.getD j 0) := by
  unfold mj_tok at h
  rw [Bool.and_eq_true, Nat.blt_eq] at h
  refine ⟨Nat.lt_trans h.1 (by decide), fun j => ?_⟩
  have := List.all_eq_true.mp h.2 _ (mj_getD0 j)
  rw [Bool.and_eq_true, decide_eq_true_eq, decide_eq_true_eq] at this
  exact ⟨this.1, congrArg Value.int this.2⟩
/-- what an exception's words stand on -/
def mj_aw (w : Cond) : Bool := (decide (w ∈ lw_tbl) && (goodWord w || (w.keepsFace && w.onTables))) || match w with
  | .laysStatic _ _ _ => decide (w ∈ lw_tbl)
  | .isRef (.static o n d) => decide (w ∈ mj_fc) && decide (Cond.laysStatic o n d ∈ lw_tbl)
  | _ => false
theorem mj_aw_ok {s : State} {A : Array Value} (hts : ∀ w ∈ lw_tbl, w.before A s = true) (hfl : ∀ w ∈ mj_fc, w.before A s = true) {w : Cond} (h : mj_aw w = true) : w.before A s = true ∧ (goodWord w = true ∨ (w.keepsFace = true ∧ w.onTables = true) ∨ (∃ o n d, w = .laysStatic o n d) ∨ ∃ o n d, w = .isRef (.static o n d) ∧ (Cond.laysStatic o n d).before A s = true) := by
  unfold mj_aw at h
  rw [Bool.or_eq_true] at h
  rcases h with h | h
  · rw [Bool.and_eq_true, decide_eq_true_eq, Bool.or_eq_true, Bool.and_eq_true] at h
    refine ⟨hts _ h.1, ?_⟩
    rcases h.2 with q | q
    · exact Or.inl q
    · exact Or.inr (Or.inl q)
  · split at h
    · rename_i o n d
      exact ⟨hts _ (of_decide_eq_true h), Or.inr (Or.inr (Or.inl ⟨_, _, _, rfl⟩))⟩
    · rename_i o n d
      rw [Bool.and_eq_true, decide_eq_true_eq, decide_eq_true_eq] at h
      exact ⟨hfl _ h.1, Or.inr (Or.inr (Or.inr ⟨_, _, _, rfl, hts _ h.2⟩))⟩
    · cases h
