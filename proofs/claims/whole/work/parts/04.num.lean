/-! whole numbers and machine words -/
theorem w32_of (a : Int) : (Int32.ofInt a).toInt = w32 a := by
  rw [Int32.toInt_ofInt]
  unfold w32
  show a.bmod 4294967296 = _
  rw [Int.bmod_def]
  split <;> omega
theorem w64_of (a : Int) : (Int64.ofInt a).toInt = w64 a := by
  rw [Int64.toInt_ofInt]
  unfold w64
  show a.bmod 18446744073709551616 = _
  rw [Int.bmod_def]
  split <;> omega
theorem of_w32 (a : Int) : Int32.ofInt (w32 a) = Int32.ofInt a := by
  rw [← w32_of, Int32.ofInt_toInt]
theorem of_w64 (a : Int) : Int64.ofInt (w64 a) = Int64.ofInt a := by
  rw [← w64_of, Int64.ofInt_toInt]
theorem w32_id {a : Int} (h1 : -2147483648 ≤ a) (h2 : a < 2147483648) : w32 a = a := by unfold w32; omega
theorem w64_id {a : Int} (h1 : -9223372036854775808 ≤ a) (h2 : a < 9223372036854775808) : w64 a = a := by unfold w64; omega
theorem n32_eq (a b : Int) : Int32.ofInt a = Int32.ofInt b ↔ w32 a = w32 b := by
  rw [← Int32.toInt_inj, w32_of, w32_of]
theorem n32_lt (a b : Int) : Int32.ofInt a < Int32.ofInt b ↔ w32 a < w32 b := by
  rw [Int32.lt_iff_toInt_lt, w32_of, w32_of]
theorem n32_le (a b : Int) : Int32.ofInt a ≤ Int32.ofInt b ↔ w32 a ≤ w32 b := by
  rw [Int32.le_iff_toInt_le, w32_of, w32_of]
theorem n64_eq (a b : Int) : Int64.ofInt a = Int64.ofInt b ↔ w64 a = w64 b := by
  rw [← Int64.toInt_inj, w64_of, w64_of]
theorem n64_lt (a b : Int) : Int64.ofInt a < Int64.ofInt b ↔ w64 a < w64 b := by
  rw [Int64.lt_iff_toInt_lt, w64_of, w64_of]
theorem n32_0 : (0 : Int32) = Int32.ofInt 0 := rfl
theorem w32_0 : w32 0 = 0 := rfl
theorem n32_clamp (a : Int) : (Int32.ofInt a).toNatClampNeg = (w32 a).toNat := by
  show (Int32.ofInt a).toInt.toNat = _
  rw [w32_of]
theorem n32_in {i : Int} {n : Nat} (h : pm_idx i n = true) : vp_in (Int32.ofInt i) n := by
  unfold pm_idx at h
  simp only [Bool.and_eq_true, decide_eq_true_eq] at h
  rintro (q | q)
  · rw [n32_0, n32_lt, w32_0] at q
    omega
  · rw [n32_clamp] at q
    omega
theorem n32_i2l (a : Int) : (Int32.ofInt a).toInt64 = Int64.ofInt (w32 a) := by
  rw [← Int64.toInt_inj, w64_of, Int32.toInt_toInt64, w32_of]
  have h1 : -2147483648 ≤ w32 a ∧ w32 a < 2147483648 := by unfold w32; omega
  rw [w64_id (by omega) (by omega)]
theorem n64_l2i (a : Int) : (Int64.ofInt a).toInt32 = Int32.ofInt a := by
  rw [← Int32.toInt_inj, Int64.toInt_toInt32, w64_of, w32_of]
  show (w64 a).bmod 4294967296 = _
  rw [Int.bmod_def]
  unfold w64 w32
  split <;> omega
theorem n32_i2b (a : Int) : (Int32.ofInt a).toInt8.toInt32 = Int32.ofInt (w8 a) := by
  rw [← Int32.toInt_inj, Int8.toInt_toInt32, Int32.toInt_toInt8, w32_of, w32_of]
  show (w32 a).bmod 256 = _
  rw [Int.bmod_def]
  unfold w32 w8
  split <;> omega
theorem n32_i2s (a : Int) : (Int32.ofInt a).toInt16.toInt32 = Int32.ofInt (w16 a) := by
  rw [← Int32.toInt_inj, Int16.toInt_toInt32, Int32.toInt_toInt16, w32_of, w32_of]
  show (w32 a).bmod 65536 = _
  rw [Int.bmod_def]
  unfold w32 w16
  split <;> omega
theorem n32_i2c (a : Int) : ((Int32.ofInt a).toUInt32 % 65536).toInt32 = Int32.ofInt (a % 65536) := by
  rw [← Int32.toInt_inj, w32_of, lg_i2c_nf, lg_i2c_toInt, w32_of]
  unfold w32
  omega
theorem n32_bi {v : Int} (h1 : -128 ≤ v) (h2 : v < 128) : (Int8.ofInt v).toInt32 = Int32.ofInt v := by
  rw [← Int32.toInt_inj, Int8.toInt_toInt32, w32_of, Int8.toInt_ofInt]
  show v.bmod 256 = _
  rw [Int.bmod_def]
  unfold w32
  split <;> omega
theorem n32_si {v : Int} (h1 : -32768 ≤ v) (h2 : v < 32768) : (Int16.ofInt v).toInt32 = Int32.ofInt v := by
  rw [← Int32.toInt_inj, Int16.toInt_toInt32, w32_of, Int16.toInt_ofInt]
  show v.bmod 65536 = _
  rw [Int.bmod_def]
  unfold w32
  split <;> omega
theorem n32_nat (n : Nat) : Int32.ofNat n = Int32.ofInt n := by
  first | rfl | exact (Int32.ofInt_natCast n).symm | exact (Int32.ofInt_eq_ofNat).symm
theorem n64_nat (n : Nat) : Int64.ofNat n = Int64.ofInt n := by
  first | rfl | exact (Int64.ofInt_natCast n).symm | exact (Int64.ofInt_eq_ofNat).symm
theorem n64_cmp (a b : Int) : lg_cmp (Int64.ofInt a) (Int64.ofInt b) = Int32.ofInt (if w64 a < w64 b then -1 else if w64 a = w64 b then 0 else 1) := by
  unfold lg_cmp
  simp only [n64_lt, n64_eq]
  by_cases h1 : w64 b < w64 a
  · rw [if_pos h1, if_neg (by omega), if_neg (by omega)]; rfl
  · by_cases h2 : w64 a = w64 b
    · rw [if_neg h1, if_pos h2, if_neg (by omega), if_pos h2]; rfl
    · rw [if_neg h1, if_neg h2, if_pos (by omega)]; rfl
