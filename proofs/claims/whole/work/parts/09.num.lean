/-! WHOLE NUMBERS and 32, 64 bits -/
theorem am_w_in (x : Int) : am_i32 (am_w x) := by unfold am_i32 am_w; omega
theorem am_wl_in (x : Int) : am_i64 (am_wl x) := by unfold am_i64 am_wl; omega
theorem am_w_id {x : Int} (h : -2147483648 ≤ x) (h2 : x ≤ 2147483647) : am_w x = x := by unfold am_w; omega
theorem am_wl_id {x : Int} (h : -9223372036854775808 ≤ x) (h2 : x ≤ 9223372036854775807) : am_wl x = x := by unfold am_wl; omega
theorem am_w_ofInt (x : Int) : Int32.ofInt (am_w x) = Int32.ofInt x := by
  refine Int32.toInt_inj.mp ?_
  rw [Int32.toInt_ofInt, Int32.toInt_ofInt]
  show Int.bmod _ 4294967296 = Int.bmod _ 4294967296
  unfold am_w
  rw [show (x + 2147483648) % 4294967296 - 2147483648 = x + 4294967296 * (-((x + 2147483648) / 4294967296)) by omega]
  exact Int.add_mul_bmod_self_left _ 4294967296 _
theorem am_wl_ofInt (x : Int) : Int64.ofInt (am_wl x) = Int64.ofInt x := by
  refine Int64.toInt_inj.mp ?_
  rw [Int64.toInt_ofInt, Int64.toInt_ofInt]
  show Int.bmod _ 18446744073709551616 = Int.bmod _ 18446744073709551616
  unfold am_wl
  rw [show (x + 9223372036854775808) % 18446744073709551616 - 9223372036854775808 = x + 18446744073709551616 * (-((x + 9223372036854775808) / 18446744073709551616)) by omega]
  exact Int.add_mul_bmod_self_left _ 18446744073709551616 _
theorem am_toInt {x : Int} (h : am_i32 x) : (Int32.ofInt x).toInt = x := Int32.toInt_ofInt_of_le h.1 (by have := h.2; omega)
theorem am_toIntl {x : Int} (h : am_i64 x) : (Int64.ofInt x).toInt = x := Int64.toInt_ofInt_of_le h.1 (by have := h.2; omega)
theorem am_eq32 {x y : Int} (h : am_i32 x) (h2 : am_i32 y) : Int32.ofInt x = Int32.ofInt y ↔ x = y := by
  rw [← Int32.toInt_inj, am_toInt h, am_toInt h2]
theorem am_lt32 {x y : Int} (h : am_i32 x) (h2 : am_i32 y) : Int32.ofInt x < Int32.ofInt y ↔ x < y := by
  rw [Int32.lt_iff_toInt_lt, am_toInt h, am_toInt h2]
theorem am_le32 {x y : Int} (h : am_i32 x) (h2 : am_i32 y) : Int32.ofInt x ≤ Int32.ofInt y ↔ x ≤ y := by
  rw [Int32.le_iff_toInt_le, am_toInt h, am_toInt h2]
theorem am_eq64 {x y : Int} (h : am_i64 x) (h2 : am_i64 y) : Int64.ofInt x = Int64.ofInt y ↔ x = y := by
  rw [← Int64.toInt_inj, am_toIntl h, am_toIntl h2]
theorem am_lt64 {x y : Int} (h : am_i64 x) (h2 : am_i64 y) : Int64.ofInt x < Int64.ofInt y ↔ x < y := by
  rw [Int64.lt_iff_toInt_lt, am_toIntl h, am_toIntl h2]
theorem am_i32_of (x : Int32) : am_i32 x.toInt := ⟨x.le_toInt, by have := x.toInt_lt; omega⟩
theorem am_i64_of (x : Int64) : am_i64 x.toInt := ⟨x.le_toInt, by have := x.toInt_lt; omega⟩
theorem am_i32_0 : am_i32 0 := by unfold am_i32; omega
theorem am_div32 {x y : Int} (h : am_i32 x) (h2 : am_i32 y) : Int32.ofInt x / Int32.ofInt y = Int32.ofInt (am_w (x.tdiv y)) := by
  rw [am_w_ofInt]
  exact (Int32.ofInt_tdiv h.1 h.2 h2.1 h2.2).symm
theorem am_div64 {x y : Int} (h : am_i64 x) (h2 : am_i64 y) : Int64.ofInt x / Int64.ofInt y = Int64.ofInt (am_wl (x.tdiv y)) := by
  rw [am_wl_ofInt]
  exact (Int64.ofInt_tdiv h.1 h.2 h2.1 h2.2).symm
theorem am_rem32 {x y : Int} (h : am_i32 x) (h2 : am_i32 y) : Int32.ofInt x - Int32.ofInt x / Int32.ofInt y * Int32.ofInt y = Int32.ofInt (x.tmod y) := by
  rw [am_div32 h h2, am_w_ofInt, ← Int32.ofInt_mul, ← Int32.ofInt_sub]
  congr 1
  have := Int.mul_tdiv_add_tmod x y
  have e : x.tdiv y * y = y * x.tdiv y := Int.mul_comm _ _
  omega
theorem am_rem64 {x y : Int} (h : am_i64 x) (h2 : am_i64 y) : Int64.ofInt x - Int64.ofInt x / Int64.ofInt y * Int64.ofInt y = Int64.ofInt (x.tmod y) := by
  rw [am_div64 h h2, am_wl_ofInt, ← Int64.ofInt_mul, ← Int64.ofInt_sub]
  congr 1
  have := Int.mul_tdiv_add_tmod x y
  have e : x.tdiv y * y = y * x.tdiv y := Int.mul_comm _ _
  omega
theorem am_tm_le {x y : Int} (h : 0 ≤ x) : x.tmod y ≤ x := by
  obtain ⟨n, rfl⟩ := Int.eq_ofNat_of_zero_le h
  have e : (n : Int).tmod y = ((n % y.natAbs : Nat) : Int) := by cases y <;> rfl
  rw [e]
  exact Int.ofNat_le.mpr (Nat.mod_le _ _)
theorem am_tmod_in {x y : Int} (h : am_i32 x) : am_i32 (x.tmod y) := by
  unfold am_i32 at *
  rcases Int.lt_or_le x 0 with hx | hx
  · have h1 : x.tmod y = -((-x).tmod y) := by rw [Int.neg_tmod, Int.neg_neg]
    have h2 : 0 ≤ (-x).tmod y := Int.tmod_nonneg _ (by omega)
    have h3 : (-x).tmod y ≤ -x := am_tm_le (by omega)
    omega
  · have h2 : 0 ≤ x.tmod y := Int.tmod_nonneg _ hx
    have h3 : x.tmod y ≤ x := am_tm_le hx
    omega
theorem am_tmod_inl {x y : Int} (h : am_i64 x) : am_i64 (x.tmod y) := by
  unfold am_i64 at *
  rcases Int.lt_or_le x 0 with hx | hx
  · have h1 : x.tmod y = -((-x).tmod y) := by rw [Int.neg_tmod, Int.neg_neg]
    have h2 : 0 ≤ (-x).tmod y := Int.tmod_nonneg _ (by omega)
    have h3 : (-x).tmod y ≤ -x := am_tm_le (by omega)
    omega
  · have h2 : 0 ≤ x.tmod y := Int.tmod_nonneg _ hx
    have h3 : x.tmod y ≤ x := am_tm_le hx
    omega
theorem am_cmp64 {x y : Int} (h : am_i64 x) (h2 : am_i64 y) : lg_cmp (Int64.ofInt x) (Int64.ofInt y) = Int32.ofInt (am_lcmp x y) := by
  unfold lg_cmp am_lcmp
  simp only [GT.gt, am_lt64 h h2, am_lt64 h2 h, am_eq64 h h2]
  repeat' split
  all_goals first | rfl | omega
theorem am_cl32 {x : Int} (h : am_i32 x) : (Int32.ofInt x).toNatClampNeg = x.toNat := by
  show (Int32.ofInt x).toInt.toNat = x.toNat
  rw [am_toInt h]
theorem am_vin {x n : Int} (h0 : 0 ≤ x) (h1 : x < n) (hn : n ≤ 65536) : vp_in (Int32.ofInt x) n.toNat := by
  have hx : am_i32 x := by unfold am_i32; omega
  unfold vp_in
  rw [am_cl32 hx]
  rintro (h | h)
  · rw [Int32.lt_iff_toInt_lt, am_toInt hx] at h
    have : (0 : Int32).toInt = 0 := rfl
    omega
  · omega
