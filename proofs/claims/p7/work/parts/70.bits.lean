/-! BITS of tokens -/
theorem bt_and (a b : Nat) : nI a &&& nI b = nI (a &&& b) := by
  apply Int32.toBitVec.inj
  show BitVec.ofNat 32 a &&& BitVec.ofNat 32 b = BitVec.ofNat 32 (a &&& b)
  rw [BitVec.ofNat_and]
theorem bt_or (a b : Nat) : nI a ||| nI b = nI (a ||| b) := by
  apply Int32.toBitVec.inj
  show BitVec.ofNat 32 a ||| BitVec.ofNat 32 b = BitVec.ofNat 32 (a ||| b)
  rw [BitVec.ofNat_or]
theorem bt_bit (t k : Nat) : t &&& 2 ^ k = t / 2 ^ k % 2 * 2 ^ k := by
  have h1 : (t &&& 2 ^ k) / 2 ^ k = t / 2 ^ k % 2 := by rw [Nat.and_div_two_pow, Nat.div_self (Nat.two_pow_pos k), Nat.and_one_is_mod]
  have h2 : (t &&& 2 ^ k) % 2 ^ k = 0 := by rw [Nat.and_mod_two_pow, Nat.mod_self, Nat.and_zero]
  have h3 := Nat.div_add_mod (t &&& 2 ^ k) (2 ^ k)
  rw [h1, h2, Nat.add_zero, Nat.mul_comm] at h3
  exact h3.symm
theorem bt_or1 {q : Nat} (h : q % 2 = 0) : q ||| 1 = q + 1 := by
  have h1 : (q ||| 1) / 2 = q / 2 := by rw [Nat.or_div_two]; exact Nat.or_zero _
  have h2 : (q ||| 1) % 2 = 1 := Nat.or_mod_two_eq_one.mpr (Or.inr rfl)
  omega
theorem bt_set {t k : Nat} (h : t / 2 ^ k % 2 = 0) : t ||| 2 ^ k = t + 2 ^ k := by
  have h1 : (t ||| 2 ^ k) / 2 ^ k = t / 2 ^ k + 1 := by rw [Nat.or_div_two_pow, Nat.div_self (Nat.two_pow_pos k), bt_or1 h]
  have h2 : (t ||| 2 ^ k) % 2 ^ k = t % 2 ^ k := by rw [Nat.or_mod_two_pow, Nat.mod_self, Nat.or_zero]
  have h3 := Nat.div_add_mod (t ||| 2 ^ k) (2 ^ k)
  have h4 := Nat.div_add_mod t (2 ^ k)
  rw [h1, h2, Nat.mul_succ] at h3
  omega
theorem bt_16 (t : Nat) : nI t &&& 65536 = nI (t / 65536 % 2 * 65536) := (bt_and t 65536).trans (congrArg nI (bt_bit t 16))
theorem bt_20 (t : Nat) : nI t &&& 1048576 = nI (t / 1048576 % 2 * 1048576) := (bt_and t 1048576).trans (congrArg nI (bt_bit t 20))
theorem bt_21 (t : Nat) : nI t &&& 2097152 = nI (t / 2097152 % 2 * 2097152) := (bt_and t 2097152).trans (congrArg nI (bt_bit t 21))
theorem bt_low (t k : Nat) : t &&& (2 ^ k - 1) = t % 2 ^ k := Nat.and_two_pow_sub_one_eq_mod t k
theorem bt_255 (t : Nat) : nI t &&& 255 = nI (t % 256) := (bt_and t 255).trans (congrArg nI (bt_low t 8))
theorem bt_65535 (t : Nat) : nI t &&& 65535 = nI (t % 65536) := (bt_and t 65535).trans (congrArg nI (bt_low t 16))
theorem bt_15 (t : Nat) : nI t &&& 15 = nI (t % 16) := (bt_and t 15).trans (congrArg nI (bt_low t 4))
theorem bt_mark {t : Nat} (h : t / 1048576 % 2 = 0) : nI t ||| 1048576 = nI (t + 1048576) := (bt_or t 1048576).trans (congrArg nI (bt_set (k := 20) h))
theorem bt_pl0 {t : Nat} (ht : t < 2 ^ 32) (h : t / 1048576 % 2 = 0) : t &&& 4293918719 = t := by
  have h1 : t &&& (4293918719 ||| 1048576) = t := (bt_low t 32).trans (Nat.mod_eq_of_lt ht)
  have h2 : t &&& 1048576 = 0 := by
    have := bt_bit t 20
    rw [show (2 : Nat) ^ 20 = 1048576 from rfl, h, Nat.zero_mul] at this
    exact this
  rw [Nat.and_or_distrib_left, h2, Nat.or_zero] at h1
  exact h1
theorem bt_plain {t : Nat} (ht : t < 2 ^ 31) : nI t &&& (-1048577) = nI (if t / 1048576 % 2 = 1 then t - 1048576 else t) := by
  refine (bt_and t 4293918719).trans (congrArg nI ?_)
  split
  · rename_i h
    have h1 : (t - 1048576) / 1048576 % 2 = 0 := by omega
    have h2 : (t - 1048576) ||| 1048576 = t := (bt_set (k := 20) h1).trans (by omega)
    have h3 := bt_pl0 (t := t - 1048576) (by omega) h1
    have h4 : (1048576 : Nat) &&& 4293918719 = 0 := by decide
    have h5 : ((t - 1048576) ||| 1048576) &&& 4293918719 = t - 1048576 := by rw [Nat.and_or_distrib_right, h3, h4, Nat.or_zero]
    rw [h2] at h5
    exact h5
  · exact bt_pl0 (by omega) (by omega)
theorem bt_shr8 {t : Nat} (ht : t < 2 ^ 31) : nI t >>> (8 &&& 31) = nI (t / 256) := pk_shrN ht (8 &&& 31) 8 (by decide)
theorem bt_shr16 {t : Nat} (ht : t < 2 ^ 31) : nI t >>> (16 &&& 31) = nI (t / 65536) := pk_shrN ht (16 &&& 31) 16 (by decide)
theorem bt_shl16 {t : Nat} (ht : t < 32768) : nI t <<< (16 &&& 31) = nI (t * 65536) := pk_shlN (16 &&& 31) 16 (by decide) (by omega)
