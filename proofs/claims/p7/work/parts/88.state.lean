/-! WHAT BOTH PROGRAMS HOLD, as numbers: ticks, pending tokens, names being made, names, levels' tables, macros, conditions, OUT, text; how each of them holds it -/
abbrev sgN : Type := (Nat → Nat → Nat) × (Nat → Nat) × Nat
abbrev sgS : Type := (Nat → Nat → Int32) × (Nat → Nat) × Nat × Nat
abbrev sgM : Type := (Nat → Nat) × (Nat → Nat) × (Nat → Nat) × Nat × Nat × Nat
abbrev sgC : Type := Nat × (Nat → Nat) × (Nat → Nat)
abbrev sgO : Type := Nat × (Nat → Nat)
abbrev sgL : Type := List Nat × Nat × (Nat → Nat) × Nat × Nat
abbrev sgE : Type := List (Nat × List Nat)
abbrev sg : Type := (Nat × Nat × Nat) × List Nat × sgE × sgN × sgS × sgM × sgC × sgO × sgL
/-- a row of pending tokens, the next one first -/
def pd : List Nat → (Nat → Int32) → Prop
  | [], _ => True
  | t :: P, f => f P.length = nI t ∧ pd P f
theorem pd_eq {f g : Nat → Int32} : ∀ {P : List Nat}, pd P f → (∀ j, j < P.length → g j = f j) → pd P g
  | [], _, _ => trivial
  | t :: P, h, e => by
    have hl : (t :: P).length = P.length + 1 := rfl
    exact ⟨by rw [e _ (by omega)]; exact h.1, pd_eq h.2 (fun j hj => e j (by omega))⟩
/-- the characters of the names being made -/
def em_t : sgE → Nat
  | [] => 0
  | x :: E => em_t E + x.2.length
def em_c : sgE → (Nat → Int32) → Prop
  | [], _ => True
  | x :: E, f => (∀ i, i < x.2.length → f (em_t E + i) = nI (x.2.getD i 0)) ∧ em_c E f
def em_r : sgE → (Nat → Int32) → Prop
  | [], _ => True
  | x :: E, f => (∀ i, i < x.2.length → f (41 * x.1 + i) = nI (x.2.getD i 0)) ∧ em_r E f
/-- depths fall from the first on, all at most dp; at most 40 characters each -/
def em_v (dp : Nat) : sgE → Prop
  | [] => True
  | x :: E => (1 ≤ x.1 ∧ x.1 ≤ dp ∧ x.2.length ≤ 40 ∧ ∀ c ∈ x.2, c < 256) ∧ em_v (x.1 - 1) E
theorem em_vt : ∀ {E : sgE} {dp : Nat}, em_v dp E → em_t E ≤ 40 * dp
  | [], _, _ => Nat.zero_le _
  | x :: E, dp, h => by
    have h2 := em_vt h.2
    have h1 := h.1
    show em_t E + x.2.length ≤ _
    omega
theorem em_vm : ∀ {E : sgE} {a b : Nat}, em_v a E → a ≤ b → em_v b E
  | [], _, _, _, _ => trivial
  | x :: E, a, b, h, hab => ⟨⟨h.1.1, by have := h.1.2.1; omega, h.1.2.2⟩, h.2⟩
theorem em_ceq {f g : Nat → Int32} : ∀ {E : sgE}, em_c E f → (∀ j, j < em_t E → g j = f j) → em_c E g
  | [], _, _ => trivial
  | x :: E, h, e => by
    have hl : em_t (x :: E) = em_t E + x.2.length := rfl
    exact ⟨fun i hi => by rw [e _ (by omega)]; exact h.1 i hi, em_ceq h.2 (fun j hj => e j (by omega))⟩
theorem em_req {f g : Nat → Int32} : ∀ {E : sgE} {dp : Nat}, em_v dp E → em_r E f → (∀ j, j < 41 * (dp + 1) → g j = f j) → em_r E g
  | [], _, _, _, _ => trivial
  | x :: E, dp, v, h, e => by
    have v1 := v.1
    refine ⟨fun i hi => ?_, em_req v.2 h.2 (fun j hj => e j (by omega))⟩
    rw [e _ (by omega)]
    exact h.1 i hi
/-- names' numbers in the reference; tokens there -/
def rp (i : Nat) : Nat := if i = 23 then 35 else if 24 ≤ i ∧ i ≤ 35 then i - 1 else i
theorem rp_lt {i k : Nat} (h : i < k) (hk : 36 ≤ k) : rp i < k := by
  unfold rp
  split
  · omega
  · split <;> omega
theorem rp_inj {i j : Nat} (h : rp i = rp j) : i = j := by
  unfold rp at h
  repeat' split at h
  all_goals omega
theorem rp_sur {j k : Nat} (h : j < k) (hk : 36 ≤ k) : ∃ i, i < k ∧ rp i = j := by
  by_cases h1 : j = 35
  · exact ⟨23, by omega, by rw [h1]; rfl⟩
  · by_cases h2 : 23 ≤ j ∧ j < 35
    · refine ⟨j + 1, by omega, ?_⟩
      unfold rp
      rw [if_neg (by omega), if_pos (by omega)]
      rfl
    · refine ⟨j, h, ?_⟩
      unfold rp
      rw [if_neg (by omega), if_neg (by omega)]
theorem rp_id {i : Nat} (h : i < 23 ∨ 36 ≤ i) : rp i = i := by
  unfold rp
  rw [if_neg (by omega), if_neg (by omega)]
def rb (b : Nat) : Nat := if b < 3328 then b else if b < 3584 then 131072 + (b - 3328) else if 2097152 ≤ b then 262144 + (b - 2097152) else 65536 + rp (b - 65536)
def rt (t : Nat) : Nat := if 1048576 ≤ t ∧ t < 2097152 then 524288 + rb (t - 1048576) else rb t
/-- a bare token; a token; a macro's -/
def tb (k t : Nat) : Prop := t < 3584 ∨ (65536 ≤ t ∧ t < 65536 + k)
def tv (k t : Nat) : Prop := tb k t ∨ (1048576 ≤ t ∧ (3328 ≤ t - 1048576 ∧ tb k (t - 1048576)))
def pv (k t : Nat) : Prop := tb k t ∨ (2097153 ≤ t ∧ t ≤ 2097161)
theorem tb_lt {k t : Nat} (hk : k ≤ 1036) (h : tb k t) : t < 66572 := by
  unfold tb at h
  omega
theorem tv_lt {k t : Nat} (hk : k ≤ 1036) (h : tv k t) : t < 1115148 := by
  unfold tv tb at h
  omega
theorem pv_lt {k t : Nat} (hk : k ≤ 1036) (h : pv k t) : t < 2097162 := by
  unfold pv tb at h
  omega
theorem tb_mono {k k' t : Nat} (hk : k ≤ k') (h : tb k t) : tb k' t := by
  unfold tb at h ⊢
  omega
theorem tv_mono {k k' t : Nat} (hk : k ≤ k') (h : tv k t) : tv k' t := by
  unfold tv tb at h ⊢
  omega
theorem pv_mono {k k' t : Nat} (hk : k ≤ k') (h : pv k t) : pv k' t := by
  unfold pv tb at h ⊢
  omega
theorem rb_lt {t k : Nat} (hk : k ≤ 1036) (h3 : 36 ≤ k) (h : tb k t) : rb t < 131328 ∧ (65536 ≤ rb t → rb t < 65536 + k ∨ (131072 ≤ rb t)) ∧ (3584 ≤ t → 65536 ≤ rb t ∧ rb t < 65536 + k) ∧ (3328 ≤ t → 65536 ≤ rb t) ∧ (t < 3328 ↔ rb t < 65536) := by
  have hp : 65536 ≤ t → rp (t - 65536) < k := fun h1 => rp_lt (by unfold tb at h; omega) h3
  unfold tb at h
  unfold rb
  split
  · omega
  · split
    · omega
    · split
      · omega
      · have := hp (by omega)
        omega
theorem rt_lt {t k : Nat} (hk : k ≤ 1036) (h3 : 36 ≤ k) (h : tv k t) : rt t < 655616 := by
  unfold rt
  rcases h with h | h
  · have h2 := tb_lt hk h
    rw [if_neg (by omega)]
    have := (rb_lt hk h3 h).1
    omega
  · have h2 := tb_lt hk h.2.2
    rw [if_pos (by omega)]
    have := (rb_lt hk h3 h.2.2).1
    omega
/-- meanings: of the class; of the class against the reference, whose macros stand at mc, pa, hd, bd, en -/
def np (pool : Nat → Nat) (a : Nat) : Nat → Nat
  | 0 => 0
  | n + 1 => np pool a n + (if 2097152 ≤ pool (a + n) then 1 else 0)
def mo (M : sgM) (a : Nat) : Prop := (∀ i, M.2.1 a ≤ i → i < M.2.2.1 a → 2097152 ≤ M.1 i → M.1 i = 2097153 + np M.1 (M.2.1 a) (i - M.2.1 a)) ∧ np M.1 (M.2.1 a) (M.2.2.1 a - M.2.1 a) ≤ 9 ∧ (∀ i, M.2.2.1 a ≤ i → i < M.2.1 (a + 1) → 2097152 ≤ M.1 i → M.1 i ≤ 2097152 + np M.1 (M.2.1 a) (M.2.2.1 a - M.2.1 a)) ∧ ∀ i, M.2.1 a ≤ i → i < M.2.2.1 a → ¬ (256 ≤ M.1 i ∧ M.1 i < 768)
def mv (made : Nat) (x : Int32) : Prop := x = 0 ∨ (∃ p, 1 ≤ p ∧ p ≤ 36 ∧ x = nI (65536 + p)) ∨ (∃ a, a < made ∧ x = nI (131072 + a)) ∨ (∃ t, t < 3328 ∧ x = nI (196608 + t)) ∨ ∃ n, n < 256 ∧ x = nI (262144 + n)
def mq (M : sgM) (pa hd bd en : Nat → Int32) (a b : Nat) : Prop := a < M.2.2.2.2.1 ∧ b < M.2.2.2.2.2 ∧ (a ≠ 0 → hd b = nI (M.2.1 a) ∧ bd b = nI (M.2.2.1 a) ∧ en b = nI (M.2.1 (a + 1)) ∧ pa b = nI (np M.1 (M.2.1 a) (M.2.2.1 a - M.2.1 a))) ∧ (a = 0 → pa b = 0 ∧ ∃ z, z ≤ 10000 ∧ hd b = nI z ∧ bd b = nI z ∧ en b = nI z)
def mw (M : sgM) (pa hd bd en : Nat → Int32) (x y : Int32) : Prop := (x = 0 ∧ y = 0) ∨ (∃ p, 1 ≤ p ∧ p ≤ 36 ∧ x = nI (65536 + p) ∧ y = nI (1000 + rp (p - 1))) ∨ (∃ a b, x = nI (131072 + a) ∧ y = nI (100000 + b) ∧ mq M pa hd bd en a b) ∨ (∃ t, t < 3328 ∧ x = nI (196608 + t) ∧ y = nI (2000000 + t)) ∨ ∃ n, n < 256 ∧ x = nI (262144 + n) ∧ y = nI (3000000 + n)
/-- the class's byte as the reference stores it -/
def bt (q : Nat) : Int32 := vp_nar .byte (nI q).toInt8.toInt32
theorem bt_all : ((List.range 256).all fun q => decide (bt q &&& 255 = nI q ∧ (bt q = 10 ↔ q = 10) ∧ (bt q = 32 ↔ q = 32))) = true := by decide +kernel
theorem bt_of {q : Nat} (h : q < 256) : bt q &&& 255 = nI q ∧ (bt q = 10 ↔ q = 10) ∧ (bt q = 32 ↔ q = 32) := of_decide_eq_true (List.all_eq_true.mp bt_all q (List.mem_range.mpr h))
/-- what is left of the text -/
def tl (L : sgL) : Nat := L.1.length + (if L.2.2.2.2 < L.2.2.2.1 then L.2.2.2.1 - L.2.2.2.2 + 1 else 0)
/-- the primitives' names -/
def pmn : List (List Nat) := [[101, 120, 112, 97, 110, 100, 97, 102, 116, 101, 114], [110, 111, 101, 120, 112, 97, 110, 100], [99, 115, 110, 97, 109, 101], [115, 116, 114, 105, 110, 103], [110, 117, 109, 98, 101, 114], [114, 111, 109, 97, 110, 110, 117, 109, 101, 114, 97, 108], [116, 104, 101], [105, 102], [105, 102, 99, 97, 116], [105, 102, 120], [105, 102, 110, 117, 109], [105, 102, 111, 100, 100], [105, 102, 116, 114, 117, 101], [105, 102, 102, 97, 108, 115, 101], [105, 102, 99, 97, 115, 101], [101, 108, 115, 101], [111, 114], [102, 105], [114, 101, 108, 97, 120], [112, 97, 114], [98, 101, 103, 105, 110, 103, 114, 111, 117, 112], [101, 110, 100, 103, 114, 111, 117, 112], [101, 110, 100, 99, 115, 110, 97, 109, 101], [101, 110, 100], [100, 101, 102], [101, 100, 101, 102], [103, 100, 101, 102], [120, 100, 101, 102], [108, 101, 116], [99, 104, 97, 114, 100, 101, 102], [99, 111, 117, 110, 116], [99, 97, 116, 99, 111, 100, 101], [97, 100, 118, 97, 110, 99, 101], [109, 117, 108, 116, 105, 112, 108, 121], [100, 105, 118, 105, 100, 101], [103, 108, 111, 98, 97, 108]]
def pml (i : Nat) : Nat := (pmn.getD i []).length
def pmc (i j : Nat) : Nat := (pmn.getD i []).getD j 0
def gpN (N : sgN) : Prop := ∀ i, i < 36 → N.2.1 i = pml i ∧ ∀ j, j < pml i → N.1 i j = pmc i j
/-- the numbers' bounds -/
def gvN (N : sgN) : Prop := 36 ≤ N.2.2 ∧ N.2.2 ≤ 1036 ∧ (∀ i, i < N.2.2 → N.2.1 i ≤ 40 ∧ ∀ j, j < N.2.1 i → N.1 i j < 256) ∧ (∀ i j, i < N.2.2 → j < N.2.2 → fd_is N.1 N.2.1 (N.1 j) (N.2.1 j) i → i = j) ∧ gpN N
def gvS (k : Nat) (made : Nat) (S : sgS) : Prop := S.2.2.1 ≤ 100 ∧ (∀ l c, l ≤ S.2.2.1 → c < 256 → ∃ q, q ≤ 15 ∧ S.1 l (256 + c) = nI q) ∧ (∀ l x, l ≤ S.2.2.1 → 512 ≤ x → x < 768 + k → mv made (S.1 l x)) ∧ ∀ l x, l ≤ S.2.2.1 → 768 + k ≤ x → x < 1804 → S.1 l x = 0
def gvM (k : Nat) (M : sgM) : Prop := (1 ≤ M.2.2.2.2.1 ∧ M.2.1 0 = 0 ∧ M.2.1 1 = 0 ∧ M.2.2.1 0 = 0) ∧ (∀ a, a < M.2.2.2.2.1 → M.2.1 a ≤ M.2.2.1 a ∧ M.2.2.1 a ≤ M.2.1 (a + 1) ∧ M.2.1 (a + 1) ≤ M.2.2.2.1 ∧ mo M a) ∧ (M.2.1 M.2.2.2.2.1 ≤ M.2.2.2.1 ∧ M.2.2.2.1 ≤ 10000 ∧ M.2.2.2.2.1 ≤ M.2.1 M.2.2.2.2.1 + 1 ∧ M.2.2.2.2.2 ≤ 30001) ∧ ∀ j, j < M.2.2.2.1 → pv k (M.1 j)
def gvC (C : sgC) : Prop := C.1 ≤ 100 ∧ ∀ j, j < C.1 → C.2.1 j ≤ 2 ∧ C.2.2 j ≤ 1
def gvO (O : sgO) : Prop := O.1 ≤ 8000 ∧ ∀ j, j < O.1 → O.2 j < 256
def gvL (L : sgL) : Prop := (L.2.2.2.1 ≤ 4000 ∧ L.2.2.2.2 ≤ 4001 ∧ L.2.1 ≤ 2 ∧ L.1.length ≤ L.2.2.2.2) ∧ (∀ c ∈ L.1, c < 256) ∧ ∀ j, j < L.2.2.2.1 → L.2.2.1 j < 256
def gv (g : sg) : Prop := (∀ t ∈ g.2.1, tv g.2.2.2.1.2.2 t) ∧ em_v g.1.2.2 g.2.2.1 ∧ gvN g.2.2.2.1 ∧ gvS g.2.2.2.1.2.2 g.2.2.2.2.2.1.2.2.2.2.1 g.2.2.2.2.1 ∧ gvM g.2.2.2.1.2.2 g.2.2.2.2.2.1 ∧ gvC g.2.2.2.2.2.2.1 ∧ gvO g.2.2.2.2.2.2.2.1 ∧ gvL g.2.2.2.2.2.2.2.2
/-- how the class holds them -/
def rcK (K : Nat × Nat × Nat) (I : Nat → Nat → Int32) : Prop := I 1 1 = nI K.1 ∧ I 1 2 = nI K.2.1 ∧ I 1 3 = nI K.2.2 ∧ K.1 ≤ K.2.1 ∧ K.2.1 ≤ 30000 ∧ K.2.2 ≤ 40
def rcP (P : List Nat) (I : Nat → Nat → Int32) : Prop := I 17 8 = nI P.length ∧ P.length < 10100 ∧ pd P (I 19)
def rcE (E : sgE) (I : Nat → Nat → Int32) : Prop := I 28 1 = nI (em_t E) ∧ em_c E (I 29)
def rcN (N : sgN) (I : Nat → Nat → Int32) : Prop := ∃ st, fd_C I 2 3 4 5 6 N.1 N.2.1 st N.2.2 ∧ fd_H I 5 6 N.1 N.2.1 N.2.2
def rcS (S : sgS) (I : Nat → Nat → Int32) : Prop := ∃ Lv sl le gs, (st_H I Lv sl le gs S.2.1 S.2.2.1 S.2.2.2 ∧ lv_g gs S.2.2.1 S.2.2.2 0 = 0) ∧ ∀ l x, l ≤ S.2.2.1 → x < 1804 → st_T I Lv sl le gs S.2.2.1 S.2.2.2 l x = S.1 l x
def rcM (M : sgM) (I : Nat → Nat → Int32) : Prop := I 21 3 = nI M.2.2.2.1 ∧ I 21 4 = nI M.2.2.2.2.1 ∧ (∀ j, j < M.2.2.2.1 → I 22 j = nI (M.1 j)) ∧ (∀ a, a ≤ M.2.2.2.2.1 → I 23 a = nI (M.2.1 a)) ∧ ∀ a, a ≤ M.2.2.2.2.1 → I 24 a = nI (M.2.2.1 a)
def rcC (C : sgC) (I : Nat → Nat → Int32) : Prop := I 25 2 = nI C.1 ∧ ∀ j, j < C.1 → I 26 j = nI (C.2.1 j) ∧ I 27 j = nI (C.2.2 j)
def rcO (O : sgO) (I : Nat → Nat → Int32) : Prop := I 34 1 = nI O.1 ∧ ∀ j, j < O.1 → I 35 j = nI (O.2 j)
def rcL (L : sgL) (I : Nat → Nat → Int32) : Prop := I 17 1 = nI L.2.2.2.1 ∧ I 17 2 = nI L.2.2.2.2 ∧ I 17 5 = nI L.2.1 ∧ (∃ at' le, I 17 3 = nI at' ∧ I 17 4 = nI le ∧ le + 1 = at' + L.1.length ∧ le ≤ 4000 ∧ ∀ i, i < L.1.length → I 18 (at' + i) = nI (L.1.getD i 0)) ∧ ∀ j, L.2.2.2.2 ≤ j → j < L.2.2.2.1 → I 18 j = nI (L.2.2.1 j)
/-- what stays for the next run: the tables of the beginning (vb), the reference's cells that calls show (vb too), macro 0; the arguments' rows (fb) stay while tokens are got -/
def rcY (vb : Nat → Int32) (I : Nat → Nat → Int32) : Prop := (∀ b, b < 256 → I 8 b = vb (2000 + b)) ∧ ((∀ x, x < 1804 → I 11 x = vb x) ∧ (∀ q, I 36 q = vb (3000 + 4 * q)) ∧ (∀ q, I 37 q = vb (3001 + 4 * q)) ∧ (∀ q, I 38 q = vb (3002 + 4 * q)) ∧ ∀ q, I 46 q = vb (3003 + 4 * q)) ∧ I 23 0 = 0 ∧ I 23 1 = 0 ∧ I 24 0 = 0
def rcZ (fb : Nat → Nat → Int32) (vb : Nat → Int32) (I : Nat → Nat → Int32) : Prop := (I 30 = fb 30 ∧ I 31 = fb 31 ∧ I 32 = fb 32 ∧ I 33 = fb 33) ∧ rcY vb I
def RC (fb : Nat → Nat → Int32) (vb : Nat → Int32) (g : sg) (I : Nat → Nat → Int32) : Prop := rcK g.1 I ∧ rcP g.2.1 I ∧ rcE g.2.2.1 I ∧ rcN g.2.2.2.1 I ∧ rcS g.2.2.2.2.1 I ∧ rcM g.2.2.2.2.2.1 I ∧ rcC g.2.2.2.2.2.2.1 I ∧ rcO g.2.2.2.2.2.2.2.1 I ∧ rcL g.2.2.2.2.2.2.2.2 I ∧ rcZ fb vb I
/-- behind a fault: what a later call may show, and what the next run stands on -/
def RCf (_ : Nat → Nat → Int32) (vb : Nat → Int32) (g : sg) (I : Nat → Nat → Int32) : Prop := I 1 1 = nI g.1.1 ∧ rcN g.2.2.2.1 I ∧ rcS g.2.2.2.2.1 I ∧ rcO g.2.2.2.2.2.2.2.1 I ∧ rcY vb I ∧ gvN g.2.2.2.1 ∧ gvO g.2.2.2.2.2.2.2.1 ∧ ∃ s, s ≤ 2 ∧ I 17 5 = nI s
/-- how the reference holds them; the class's cells are those of H -/
def rrK (K : Nat × Nat × Nat) (J : Nat → Nat → Int32) : Prop := J 36 36 = nI K.1 ∧ J 36 37 = nI K.2.1 ∧ J 36 38 = nI K.2.2 ∧ J 36 39 = 0
def rrP (P : List Nat) (J : Nat → Nat → Int32) : Prop := J 36 29 = nI P.length ∧ pd (P.map rt) (J 53)
def rrN (N : sgN) (J : Nat → Nat → Int32) : Prop := ∃ rn rl, rd_C J 36 rn rl N.2.2 ∧ ∀ i, i < N.2.2 → rl (rp i) = N.2.1 i ∧ ∀ j, j < N.2.1 i → rn (rp i) j = N.1 i j
def rrS (M : sgM) (k : Nat) (S : sgS) (J : Nat → Nat → Int32) : Prop := J 36 17 = nI S.2.2.1 ∧ (∀ l, l < S.2.2.1 → J 44 (l + 1) = (if S.2.1 l = 0 then 1 else 0)) ∧ (∀ l c, l ≤ S.2.2.1 → c < 256 → J 46 (256 * l + c) = S.1 l c ∧ J 47 (256 * l + c) = S.1 l (256 + c) ∧ mw M (J 48) (J 49) (J 50) (J 51) (S.1 l (512 + c)) (J 45 (1400 * l + (1100 + c)))) ∧ (∀ l i, l ≤ S.2.2.1 → i < k → mw M (J 48) (J 49) (J 50) (J 51) (S.1 l (768 + i)) (J 45 (1400 * l + rp i))) ∧ S.2.2.1 ≤ 100
def rrM (M : sgM) (J : Nat → Nat → Int32) : Prop := J 36 27 = nI M.2.2.2.1 ∧ J 36 22 = nI M.2.2.2.2.2 ∧ ∀ j, j < M.2.2.2.1 → J 52 j = nI (rt (M.1 j))
def rrC (C : sgC) (J : Nat → Nat → Int32) : Prop := J 36 33 = nI C.1 ∧ ∀ j, j < C.1 → J 57 j = nI (C.2.1 j) ∧ J 56 j = nI (C.2.2 j)
def rrO (O : sgO) (J : Nat → Nat → Int32) : Prop := J 36 3 = nI O.1 ∧ ∀ j, j < O.1 → J 38 j = bt (O.2 j)
def rrL (L : sgL) (J : Nat → Nat → Int32) : Prop := J 36 1 = nI L.2.2.2.1 ∧ J 36 5 = nI L.2.2.2.2 ∧ (L.1 ≠ [] → J 36 10 = nI L.2.1) ∧ (∃ lp, J 36 9 = nI lp ∧ J 36 8 = nI (lp + L.1.length) ∧ lp + L.1.length ≤ 4001 ∧ ∀ i, i < L.1.length → J 39 (lp + i) = nI (L.1.getD i 0)) ∧ (∃ ln, J 36 6 = nI ln ∧ ln ≤ L.2.2.2.2) ∧ ∀ j, L.2.2.2.2 ≤ j → j < L.2.2.2.1 → J 37 j = bt (L.2.2.1 j)
def RR (H : Nat → Nat → Int32) (g : sg) (J : Nat → Nat → Int32) : Prop := rrK g.1 J ∧ rrP g.2.1 J ∧ em_r g.2.2.1 (J 43) ∧ rrN g.2.2.2.1 J ∧ rrS g.2.2.2.2.2.1 g.2.2.2.1.2.2 g.2.2.2.2.1 J ∧ rrM g.2.2.2.2.2.1 J ∧ rrC g.2.2.2.2.2.2.1 J ∧ (rrO g.2.2.2.2.2.2.2.1 J ∧ J 36 40 = 0) ∧ rrL g.2.2.2.2.2.2.2.2 J ∧ ∀ c, (c < 36 ∨ (48 ≤ c ∧ c ≤ 51) ∨ c = 54 ∨ c = 55) → J c = H c
def RD (H : Nat → Nat → Int32) (g : sg) (J : Nat → Nat → Int32) : Prop := J 36 36 = nI g.1.1 ∧ (∃ f, 0 < f ∧ f < 2 ^ 31 ∧ J 36 39 = nI f) ∧ rrO g.2.2.2.2.2.2.2.1 J ∧ ((∀ c, c < 256 → J 46 c = g.2.2.2.2.1.1 0 c) ∧ ∃ lv, lv ≤ 100 ∧ J 36 17 = nI lv) ∧ ∀ c, c < 36 → J c = H c
section MJSD
variable {I J H : Nat → Nat → Int32} {fb : Nat → Nat → Int32} {vb : Nat → Int32} {K : Nat × Nat × Nat} {P : List Nat} {E : sgE} {N : sgN} {S : sgS} {M : sgM} {C : sgC} {O : sgO} {L : sgL}
theorem gv_d (h : gv (K, P, E, N, S, M, C, O, L)) : (∀ t ∈ P, tv N.2.2 t) ∧ em_v K.2.2 E ∧ gvN N ∧ gvS N.2.2 M.2.2.2.2.1 S ∧ gvM N.2.2 M ∧ gvC C ∧ gvO O ∧ gvL L := h
theorem rc_d (h : RC fb vb (K, P, E, N, S, M, C, O, L) I) : rcK K I ∧ rcP P I ∧ rcE E I ∧ rcN N I ∧ rcS S I ∧ rcM M I ∧ rcC C I ∧ rcO O I ∧ rcL L I ∧ rcZ fb vb I := h
theorem rr_d (h : RR H (K, P, E, N, S, M, C, O, L) J) : rrK K J ∧ rrP P J ∧ em_r E (J 43) ∧ rrN N J ∧ rrS M N.2.2 S J ∧ rrM M J ∧ rrC C J ∧ (rrO O J ∧ J 36 40 = 0) ∧ rrL L J ∧ ∀ c, (c < 36 ∨ (48 ≤ c ∧ c ≤ 51) ∨ c = 54 ∨ c = 55) → J c = H c := h
end MJSD
/-- all shapes and references of the class, of the reference: as rewriting rows -/
theorem mjs_up_f {α : Type} {f : Nat → Nat → α} {a j k : Nat} {v : α} (h : k ≠ j) : mj_up f a j v a k = f a k := mjs_up_ne (Or.inr h)
theorem mc_sh : (∀ (f : Prop) (b : Nat), b < 8 → mj_tt f (mj_ob sh59 0 0 b) = f) ∧ (∀ (f : Prop) (r : List Value), mj_rc f sh59 0 (.ref 0 :: r) = f) ∧ (∀ (f : Prop) (b : Nat), b < 4 → mj_tt f (mj_ob sh59 1 7 b) = f) ∧ (∀ (f : Prop) (r : List Value), mj_rc f sh59 7 (.ref 1 :: r) = f) ∧ (∀ (f : Prop) (b : Nat), b < 6 → mj_tt f (mj_ob sh59 2 5 b) = f) ∧ (∀ (f : Prop) (r : List Value), mj_rc f sh59 5 (.ref 2 :: r) = f) ∧ mj_ar sh59 3 2 = some 40237 ∧ mj_ar sh59 4 0 = some 1037 ∧ mj_ar sh59 5 0 = some 256 ∧ mj_ar sh59 6 0 = some 1036 ∧ mj_ar sh59 7 0 = some 40 ∧ mj_ar sh59 8 0 = some 256 ∧ (∀ (f : Prop) (b : Nat), b < 10 → mj_tt f (mj_ob sh59 9 9 b) = f) ∧ (∀ (f : Prop) (r : List Value), mj_rc f sh59 9 (.ref 9 :: r) = f) ∧ mj_ar sh59 10 0 = some 1804 ∧ mj_ar sh59 11 0 = some 1804 ∧ mj_ar sh59 12 0 = some 1804 ∧ mj_ar sh59 13 0 = some 30001 ∧ mj_ar sh59 14 0 = some 30001 ∧ mj_ar sh59 15 0 = some 100 ∧ mj_ar sh59 16 0 = some 100 ∧ (∀ (f : Prop) (b : Nat), b < 13 → mj_tt f (mj_ob sh59 17 8 b) = f) ∧ (∀ (f : Prop) (r : List Value), mj_rc f sh59 8 (.ref 17 :: r) = f) ∧ mj_ar sh59 18 0 = some 4001 ∧ mj_ar sh59 19 0 = some 10100 ∧ mj_ar sh59 20 0 = some 41 ∧ (∀ (f : Prop) (b : Nat), b < 6 → mj_tt f (mj_ob sh59 21 4 b) = f) ∧ (∀ (f : Prop) (r : List Value), mj_rc f sh59 4 (.ref 21 :: r) = f) ∧ mj_ar sh59 22 0 = some 10000 ∧ mj_ar sh59 23 0 = some 10002 ∧ mj_ar sh59 24 0 = some 10002 ∧ (∀ (f : Prop) (b : Nat), b < 6 → mj_tt f (mj_ob sh59 25 2 b) = f) ∧ (∀ (f : Prop) (r : List Value), mj_rc f sh59 2 (.ref 25 :: r) = f) ∧ mj_ar sh59 26 0 = some 100 ∧ mj_ar sh59 27 3 = some 100 ∧ (∀ (f : Prop) (b : Nat), b < 9 → mj_tt f (mj_ob sh59 28 3 b) = f) ∧ (∀ (f : Prop) (r : List Value), mj_rc f sh59 3 (.ref 28 :: r) = f) ∧ mj_ar sh59 29 0 = some 1600 ∧ (∀ (f : Prop) (b : Nat), b < 7 → mj_tt f (mj_ob sh59 30 1 b) = f) ∧ (∀ (f : Prop) (r : List Value), mj_rc f sh59 1 (.ref 30 :: r) = f) ∧ mj_ar sh59 31 0 = some 14101 ∧ mj_ar sh59 32 0 = some 16 ∧ mj_ar sh59 33 0 = some 16 ∧ (∀ (f : Prop) (b : Nat), b < 7 → mj_tt f (mj_ob sh59 34 6 b) = f) ∧ (∀ (f : Prop) (r : List Value), mj_rc f sh59 6 (.ref 34 :: r) = f) ∧ mj_ar sh59 35 0 = some 8000 :=
  ⟨fun f b h => mjs_ob (n := 8) rfl h, fun f r => mjs_rc (n := 8) rfl, fun f b h => mjs_ob (n := 4) rfl h, fun f r => mjs_rc (n := 4) rfl, fun f b h => mjs_ob (n := 6) rfl h, fun f r => mjs_rc (n := 6) rfl, mjs_ar rfl, mjs_ar rfl, mjs_ar rfl, mjs_ar rfl, mjs_ar rfl, mjs_ar rfl, fun f b h => mjs_ob (n := 10) rfl h, fun f r => mjs_rc (n := 10) rfl, mjs_ar rfl, mjs_ar rfl, mjs_ar rfl, mjs_ar rfl, mjs_ar rfl, mjs_ar rfl, mjs_ar rfl, fun f b h => mjs_ob (n := 13) rfl h, fun f r => mjs_rc (n := 13) rfl, mjs_ar rfl, mjs_ar rfl, mjs_ar rfl, fun f b h => mjs_ob (n := 6) rfl h, fun f r => mjs_rc (n := 6) rfl, mjs_ar rfl, mjs_ar rfl, mjs_ar rfl, fun f b h => mjs_ob (n := 6) rfl h, fun f r => mjs_rc (n := 6) rfl, mjs_ar rfl, mjs_ar rfl, fun f b h => mjs_ob (n := 9) rfl h, fun f r => mjs_rc (n := 9) rfl, mjs_ar rfl, fun f b h => mjs_ob (n := 7) rfl h, fun f r => mjs_rc (n := 7) rfl, mjs_ar rfl, mjs_ar rfl, mjs_ar rfl, fun f b h => mjs_ob (n := 7) rfl h, fun f r => mjs_rc (n := 7) rfl, mjs_ar rfl⟩
theorem mm_sh : (∀ (f : Prop) (b : Nat), b < 41 → mj_tt f (mj_ob sh59 36 10 b) = f) ∧ (∀ (f : Prop) (r : List Value), mj_rc f sh59 10 (.ref 36 :: r) = f) ∧ mj_ar sh59 37 4 = some 4000 ∧ mj_ar sh59 38 4 = some 8000 ∧ mj_ar sh59 39 0 = some 4001 ∧ mj_ar sh59 40 4 = some 44000 ∧ mj_ar sh59 41 0 = some 1100 ∧ mj_ar sh59 42 0 = some 41 ∧ mj_ar sh59 43 0 = some 1722 ∧ mj_ar sh59 44 3 = some 102 ∧ mj_ar sh59 45 0 = some 141400 ∧ mj_ar sh59 46 0 = some 25856 ∧ mj_ar sh59 47 0 = some 25856 ∧ mj_ar sh59 48 0 = some 30002 ∧ mj_ar sh59 49 0 = some 30002 ∧ mj_ar sh59 50 0 = some 30002 ∧ mj_ar sh59 51 0 = some 30002 ∧ mj_ar sh59 52 0 = some 10001 ∧ mj_ar sh59 53 0 = some 10600 ∧ mj_ar sh59 54 0 = some 99000 ∧ mj_ar sh59 55 0 = some 9 ∧ mj_ar sh59 56 3 = some 101 ∧ mj_ar sh59 57 0 = some 101 :=
  ⟨fun f b h => mjs_ob (n := 41) rfl h, fun f r => mjs_rc (n := 41) rfl, mjs_ar rfl, mjs_ar rfl, mjs_ar rfl, mjs_ar rfl, mjs_ar rfl, mjs_ar rfl, mjs_ar rfl, mjs_ar rfl, mjs_ar rfl, mjs_ar rfl, mjs_ar rfl, mjs_ar rfl, mjs_ar rfl, mjs_ar rfl, mjs_ar rfl, mjs_ar rfl, mjs_ar rfl, mjs_ar rfl, mjs_ar rfl, mjs_ar rfl, mjs_ar rfl⟩
theorem mc_rf {Rf : Nat → Nat → Option Nat} (h : mj_Rt mp_R Rf) : Rf 0 0 = some 1 ∧ Rf 0 1 = some 2 ∧ Rf 0 2 = some 9 ∧ Rf 0 3 = some 17 ∧ Rf 0 4 = some 21 ∧ Rf 0 5 = some 25 ∧ Rf 0 6 = some 28 ∧ Rf 0 7 = some 34 ∧ Rf 2 0 = some 3 ∧ Rf 2 1 = some 4 ∧ Rf 2 2 = some 5 ∧ Rf 2 3 = some 8 ∧ Rf 2 4 = some 6 ∧ Rf 9 0 = some 10 ∧ Rf 9 1 = some 11 ∧ Rf 9 2 = some 12 ∧ Rf 9 3 = some 13 ∧ Rf 9 4 = some 14 ∧ Rf 9 6 = some 15 ∧ Rf 9 7 = some 16 ∧ Rf 9 9 = some 1 ∧ Rf 17 0 = some 18 ∧ Rf 17 7 = some 19 ∧ Rf 17 9 = some 20 ∧ Rf 17 10 = some 2 ∧ Rf 17 11 = some 9 ∧ Rf 17 12 = some 1 ∧ Rf 21 0 = some 22 ∧ Rf 21 1 = some 23 ∧ Rf 21 2 = some 24 ∧ Rf 21 5 = some 1 ∧ Rf 25 0 = some 26 ∧ Rf 25 1 = some 27 ∧ Rf 25 3 = some 17 ∧ Rf 25 4 = some 9 ∧ Rf 25 5 = some 1 ∧ Rf 28 0 = some 29 ∧ Rf 28 2 = some 17 ∧ Rf 28 3 = some 2 ∧ Rf 28 4 = some 9 ∧ Rf 28 5 = some 21 ∧ Rf 28 6 = some 25 ∧ Rf 28 7 = some 1 ∧ Rf 28 8 = some 30 ∧ Rf 30 0 = some 31 ∧ Rf 30 1 = some 32 ∧ Rf 30 2 = some 33 ∧ Rf 30 4 = some 17 ∧ Rf 30 5 = some 21 ∧ Rf 30 6 = some 1 ∧ Rf 34 0 = some 35 ∧ Rf 34 2 = some 28 ∧ Rf 34 3 = some 17 ∧ Rf 34 4 = some 9 ∧ Rf 34 5 = some 21 ∧ Rf 34 6 = some 1 :=
  ⟨h.at (by decide), h.at (by decide), h.at (by decide), h.at (by decide), h.at (by decide), h.at (by decide), h.at (by decide), h.at (by decide), h.at (by decide), h.at (by decide), h.at (by decide), h.at (by decide), h.at (by decide), h.at (by decide), h.at (by decide), h.at (by decide), h.at (by decide), h.at (by decide), h.at (by decide), h.at (by decide), h.at (by decide), h.at (by decide), h.at (by decide), h.at (by decide), h.at (by decide), h.at (by decide), h.at (by decide), h.at (by decide), h.at (by decide), h.at (by decide), h.at (by decide), h.at (by decide), h.at (by decide), h.at (by decide), h.at (by decide), h.at (by decide), h.at (by decide), h.at (by decide), h.at (by decide), h.at (by decide), h.at (by decide), h.at (by decide), h.at (by decide), h.at (by decide), h.at (by decide), h.at (by decide), h.at (by decide), h.at (by decide), h.at (by decide), h.at (by decide), h.at (by decide), h.at (by decide), h.at (by decide), h.at (by decide), h.at (by decide), h.at (by decide)⟩
theorem mm_rf {Rf : Nat → Nat → Option Nat} (h : mj_Rt mm_R Rf) : Rf 36 2 = some 37 ∧ Rf 36 4 = some 38 ∧ Rf 36 7 = some 39 ∧ Rf 36 12 = some 40 ∧ Rf 36 13 = some 41 ∧ Rf 36 14 = some 42 ∧ Rf 36 16 = some 43 ∧ Rf 36 18 = some 44 ∧ Rf 36 19 = some 45 ∧ Rf 36 20 = some 46 ∧ Rf 36 21 = some 47 ∧ Rf 36 23 = some 48 ∧ Rf 36 24 = some 49 ∧ Rf 36 25 = some 50 ∧ Rf 36 26 = some 51 ∧ Rf 36 28 = some 52 ∧ Rf 36 30 = some 53 ∧ Rf 36 31 = some 54 ∧ Rf 36 32 = some 55 ∧ Rf 36 34 = some 56 ∧ Rf 36 35 = some 57 :=
  ⟨h.at (by decide), h.at (by decide), h.at (by decide), h.at (by decide), h.at (by decide), h.at (by decide), h.at (by decide), h.at (by decide), h.at (by decide), h.at (by decide), h.at (by decide), h.at (by decide), h.at (by decide), h.at (by decide), h.at (by decide), h.at (by decide), h.at (by decide), h.at (by decide), h.at (by decide), h.at (by decide), h.at (by decide)⟩
theorem mm_W {Rf : Nat → Nat → Option Nat} (h : mj_Rt mm_R Rf) : mr_W sh59 Rf 36 := ⟨rfl, fun a b k n hx => by
  simp only [mr_L, List.mem_cons, List.not_mem_nil, or_false, Prod.mk.injEq] at hx
  rcases hx with ⟨rfl, rfl, rfl, rfl⟩ | ⟨rfl, rfl, rfl, rfl⟩ | ⟨rfl, rfl, rfl, rfl⟩ | ⟨rfl, rfl, rfl, rfl⟩ | ⟨rfl, rfl, rfl, rfl⟩ | ⟨rfl, rfl, rfl, rfl⟩ | ⟨rfl, rfl, rfl, rfl⟩ | ⟨rfl, rfl, rfl, rfl⟩ | ⟨rfl, rfl, rfl, rfl⟩ | ⟨rfl, rfl, rfl, rfl⟩ | ⟨rfl, rfl, rfl, rfl⟩ | ⟨rfl, rfl, rfl, rfl⟩ | ⟨rfl, rfl, rfl, rfl⟩ | ⟨rfl, rfl, rfl, rfl⟩ | ⟨rfl, rfl, rfl, rfl⟩ | ⟨rfl, rfl, rfl, rfl⟩ | ⟨rfl, rfl, rfl, rfl⟩ | ⟨rfl, rfl, rfl, rfl⟩ | ⟨rfl, rfl, rfl, rfl⟩ | ⟨rfl, rfl, rfl, rfl⟩ | ⟨rfl, rfl, rfl, rfl⟩
  · exact ⟨h.at (by decide), rfl⟩
  · exact ⟨h.at (by decide), rfl⟩
  · exact ⟨h.at (by decide), rfl⟩
  · exact ⟨h.at (by decide), rfl⟩
  · exact ⟨h.at (by decide), rfl⟩
  · exact ⟨h.at (by decide), rfl⟩
  · exact ⟨h.at (by decide), rfl⟩
  · exact ⟨h.at (by decide), rfl⟩
  · exact ⟨h.at (by decide), rfl⟩
  · exact ⟨h.at (by decide), rfl⟩
  · exact ⟨h.at (by decide), rfl⟩
  · exact ⟨h.at (by decide), rfl⟩
  · exact ⟨h.at (by decide), rfl⟩
  · exact ⟨h.at (by decide), rfl⟩
  · exact ⟨h.at (by decide), rfl⟩
  · exact ⟨h.at (by decide), rfl⟩
  · exact ⟨h.at (by decide), rfl⟩
  · exact ⟨h.at (by decide), rfl⟩
  · exact ⟨h.at (by decide), rfl⟩
  · exact ⟨h.at (by decide), rfl⟩
  · exact ⟨h.at (by decide), rfl⟩⟩
