/-! THE LINKS ARE AMONG THE TABLES' WORDS -/
def mj_Wd (w : Cond) : Prop := w ∈ lw_tbl ∧ goodWord w = true
def mj_nm (o : Nat) : String := mj_cn.getD o ""
def mj_tb (c j : Nat) : String × String × String × Bool := match mj_cl[c]? with
  | some q => q.2.1 j
  | none => ("", "", "", false)
def mj_ch (w : Cond) (h : Nat) : Bool := decide (lw_tbl[h]? = some w) && goodWord w
theorem mj_ch_wd {w : Cond} {h : Nat} (q : mj_ch w h = true) : mj_Wd w := by
  unfold mj_ch at q
  rw [Bool.and_eq_true, decide_eq_true_eq] at q
  exact ⟨List.mem_of_getElem? q.1, q.2⟩
def mj_zc {α : Type} (f : α → Cond) : List α → List Nat → Bool
  | q :: qs, h :: hs => mj_ch (f q) h && mj_zc f qs hs
  | [], [] => true
  | _, _ => false
theorem mj_zc_wd {α : Type} {f : α → Cond} : ∀ {qs : List α} {hs : List Nat}, mj_zc f qs hs = true → ∀ q ∈ qs, mj_Wd (f q)
  | q :: qs, h :: hs, z, x, hx => by
    unfold mj_zc at z
    rw [Bool.and_eq_true] at z
    rcases List.mem_cons.mp hx with rfl | hx
    · exact mj_ch_wd z.1
    · exact mj_zc_wd z.2 x hx
def mj_flc (q : Nat × Nat × Nat × Nat) : Cond := .fieldLink (mj_nm q.1) q.2.1 (mj_tb q.2.2.1 q.2.2.2).1 (mj_tb q.2.2.1 q.2.2.2).2.1 (mj_tb q.2.2.1 q.2.2.2).2.2.1
theorem mj_FLok : mj_zc mj_flc mj_FL mj_FLh = true := by decide +kernel
