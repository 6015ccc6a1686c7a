/-! BITS of whole numbers that aren't below 0 -/
theorem nb_tn {n : Nat} (h : n < 2147483648) : (Int32.ofInt (n : Int)).toBitVec.toNat = n := by
  show (BitVec.ofInt 32 (n : Int)).toNat = n
  rw [BitVec.toNat_ofInt]
  omega
theorem nb_ti {y : Int32} {n : Nat} (h : n < 2147483648) (hy : y.toBitVec.toNat = n) : y.toInt = (n : Int) := by
  show y.toBitVec.toInt = _
  rw [BitVec.toInt_eq_toNat_of_lt (by omega), hy]
theorem nb_lt_and (a b : Nat) (h : a < 2147483648) : a &&& b < 2147483648 := Nat.lt_of_le_of_lt Nat.and_le_left h
theorem nb_and {a b : Nat} (ha : a < 2147483648) (hb : b < 2147483648) : am_and (a : Int) (b : Int) = ((a &&& b : Nat) : Int) := by
  unfold am_and
  refine nb_ti (nb_lt_and _ _ ha) ?_
  rw [Int32.toBitVec_and, BitVec.toNat_and, nb_tn ha, nb_tn hb]
theorem nb_or {a b : Nat} (ha : a < 2147483648) (hb : b < 2147483648) : am_or (a : Int) (b : Int) = ((a ||| b : Nat) : Int) := by
  unfold am_or
  refine nb_ti (Nat.or_lt_two_pow (n := 31) ha hb) ?_
  rw [Int32.toBitVec_or, BitVec.toNat_or, nb_tn ha, nb_tn hb]
theorem nb_xor {a b : Nat} (ha : a < 2147483648) (hb : b < 2147483648) : am_xor (a : Int) (b : Int) = ((a ^^^ b : Nat) : Int) := by
  unfold am_xor
  refine nb_ti (Nat.xor_lt_two_pow (n := 31) ha hb) ?_
  rw [Int32.toBitVec_xor, BitVec.toNat_xor, nb_tn ha, nb_tn hb]
theorem nb_sc : ∀ k, k < 32 → ((Int32.ofInt ((k : Nat) : Int) &&& 31).toBitVec.smod 32).toNat = k := by decide +kernel
theorem nb_shl {a k : Nat} (hk : k < 32) (h : a * 2 ^ k < 2147483648) : am_shl (a : Int) (k : Int) = ((a * 2 ^ k : Nat) : Int) := by
  unfold am_shl
  have ha : a < 2147483648 := Nat.lt_of_le_of_lt (Nat.le_mul_of_pos_right _ (Nat.two_pow_pos k)) h
  refine nb_ti h ?_
  rw [Int32.toBitVec_shiftLeft, BitVec.shiftLeft_eq', BitVec.toNat_shiftLeft, nb_tn ha, nb_sc k hk, Nat.shiftLeft_eq, Nat.mod_eq_of_lt (by omega)]
theorem nb_shr {a k : Nat} (hk : k < 32) (ha : a < 2147483648) : am_shr (a : Int) (k : Int) = ((a / 2 ^ k : Nat) : Int) := by
  unfold am_shr
  refine nb_ti (Nat.lt_of_le_of_lt (Nat.div_le_self _ _) ha) ?_
  have hm : (Int32.ofInt (a : Int)).toBitVec.msb = false := by rw [BitVec.msb_eq_decide, nb_tn ha]; simp; omega
  rw [Int32.toBitVec_shiftRight, BitVec.sshiftRight', BitVec.sshiftRight_eq_of_msb_false hm, BitVec.toNat_ushiftRight, nb_tn ha, nb_sc k hk, Nat.shiftRight_eq_div_pow]
theorem nb_op {op ar : Nat} (ho : op < 14) (ha : ar < 65536) : am_shr ((op : Int) * 65536 + (ar : Int)) 16 = (op : Int) := by
  have h : ((op : Int) * 65536 + (ar : Int)) = ((op * 65536 + ar : Nat) : Int) := by omega
  rw [h, show (16 : Int) = ((16 : Nat) : Int) from rfl, nb_shr (by decide) (by omega)]
  have : (op * 65536 + ar) / 2 ^ 16 = op := by omega
  rw [this]
theorem nb_ar {op ar : Nat} (ho : op < 14) (ha : ar < 65536) : am_and ((op : Int) * 65536 + (ar : Int)) 65535 = (ar : Int) := by
  have h : ((op : Int) * 65536 + (ar : Int)) = ((op * 65536 + ar : Nat) : Int) := by omega
  rw [h, show (65535 : Int) = ((65535 : Nat) : Int) from rfl, nb_and (by omega) (by decide), show (65535 : Nat) = 2 ^ 16 - 1 from rfl, Nat.and_two_pow_sub_one_eq_mod]
  have : (op * 65536 + ar) % 2 ^ 16 = ar := by omega
  rw [this]
/-- a word of code -/
def nm_cw (op ar : Int) : Int := op * 65536 + ar
theorem nm_cw_op {op ar : Int} (h0 : 0 ≤ op) (h1 : op < 14) (h2 : 0 ≤ ar) (h3 : ar < 65536) : am_shr (nm_cw op ar) 16 = op := by
  obtain ⟨o, rfl⟩ := Int.eq_ofNat_of_zero_le h0
  obtain ⟨a, rfl⟩ := Int.eq_ofNat_of_zero_le h2
  exact nb_op (by omega) (by omega)
theorem nm_cw_ar {op ar : Int} (h0 : 0 ≤ op) (h1 : op < 14) (h2 : 0 ≤ ar) (h3 : ar < 65536) : am_and (nm_cw op ar) 65535 = ar := by
  obtain ⟨o, rfl⟩ := Int.eq_ofNat_of_zero_le h0
  obtain ⟨a, rfl⟩ := Int.eq_ofNat_of_zero_le h2
  exact nb_ar (by omega) (by omega)
