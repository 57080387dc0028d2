/-! THE LINKS ARE AMONG THE TABLES' WORDS -/
def mj_Wd (w : Cond) : Prop := w ∈ lw_tbl ∧ goodWord w = true
def mj_nm (o : Nat) : String := mj_cn.getD o ""
def mj_tb (c j : Nat) : String × String × String × Bool := match mj_cl[c]? with
  | some q => q.2.1 j
  | none => ("", "", "", false)
def mj_ch (w : Cond) (h : Nat) : Bool := decide (lw_tbl[h]? = some w) && goodWord w
theorem mj_ch_wd {w : Cond} {h : Nat} (q : mj_ch w h = true) : mj_Wd w := by
  unfold mj_ch at q
  rw [Bool.and_eq_true, decide_eq_true_eq] at q
  exact ⟨List.mem_of_getElem? q.1, q.2⟩
def mj_zc {α : Type} (f : α → Cond) : List α → List Nat → Bool
  | q :: qs, h :: hs => mj_ch (f q) h && mj_zc f qs hs
  | [], [] => true
  | _, _ => false
theorem mj_zc_wd {α : Type} {f : α → Cond} : ∀ {qs : List α} {hs : List Nat}, mj_zc f qs hs = true → ∀ q ∈ qs, mj_Wd (f q)
  | q :: qs, h :: hs, z, x, hx => by
    unfold mj_zc at z
    rw [Bool.and_eq_true] at z
    rcases List.mem_cons.mp hx with rfl | hx
    · exact mj_ch_wd z.1
    · exact mj_zc_wd z.2 x hx
def mj_flc (q : Nat × Nat × Nat × Nat) : Cond := .fieldLink (mj_nm q.1) q.2.1 (mj_tb q.2.2.1 q.2.2.2).1 (mj_tb q.2.2.1 q.2.2.2).2.1 (mj_tb q.2.2.1 q.2.2.2).2.2.1
theorem mj_FLok : mj_zc mj_flc mj_FL mj_FLh = true := by decide +kernel
/-- a method's name; the JDK's own behind 900 -/
def mj_mn (n : Nat) : MethodName := match n with
  | 900 => ⟨"java/lang/Math", "abs", "(I)I"⟩
  | 901 => ⟨"java/lang/Math", "max", "(II)I"⟩
  | 902 => ⟨"java/lang/System", "arraycopy", "(Ljava/lang/Object;ILjava/lang/Object;II)V"⟩
  | 903 => ⟨"[I", "clone", "()Ljava/lang/Object;"⟩
  | 904 => ⟨"java/lang/String", "length", "()I"⟩
  | 905 => ⟨"java/lang/String", "charAt", "(I)C"⟩
  | n => match mj_PD[n]? with
    | some y => y.1
    | none => ⟨"", "", ""⟩
def mj_mlc (q : Nat × Nat × Nat) : Cond := .methodLink (mj_nm q.1) q.2.1 (mj_mn q.2.2)
theorem mj_MLok : mj_zc mj_mlc mj_ML mj_MLh = true := by decide +kernel
def mj_clc (q : Nat × Nat × Nat) : Cond := .classLink (mj_nm q.1) q.2.1 (mj_nm q.2.2)
theorem mj_CLok : mj_zc mj_clc mj_CL mj_CLh = true := by decide +kernel
def mj_kic (q : Nat × Nat × Int32) : Cond := .constant (mj_nm q.1) q.2.1 q.2.2
theorem mj_KIok : mj_zc mj_kic mj_KI mj_KIh = true := by decide +kernel
def mj_klc (q : Nat × Nat × Int64) : Cond := .constantLong (mj_nm q.1) q.2.1 q.2.2
theorem mj_KLok : mj_zc mj_klc mj_KL mj_KLh = true := by decide +kernel
def mj_oic (q : Nat × Nat) : Cond := .methodLink (mj_nm q.1) q.2 objectInit
theorem mj_OIok : mj_zc mj_oic mj_OI mj_OIh = true := by decide +kernel
theorem mj_OB1 : mj_Wd (.instanceMethod objectInit) := ⟨by decide +kernel, by decide +kernel⟩
theorem mj_OB2 : mj_Wd (.code objectInit ⟨#[0xb1]⟩ 1 none) := ⟨by decide +kernel, by decide +kernel⟩
theorem mj_AC (t : ArrayType) (h : t = .int ∨ t = .long ∨ t = .char ∨ t = .boolean ∨ t = .byte) : mj_Wd (.arrayClass (newarray.typeOf t)) := by
  rcases h with rfl | rfl | rfl | rfl | rfl <;> exact ⟨by decide +kernel, by decide +kernel⟩
