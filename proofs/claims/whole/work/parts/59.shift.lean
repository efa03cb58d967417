/-! Shifts and masks as numbers. -/
theorem sh_cnt : ∀ k : Fin 64, (nI k.val).toInt64 &&& 63 = Int64.ofNat k.val ∧ ((Int64.ofNat k.val).toBitVec.smod (64 : BitVec 64)).toNat = k.val := by decide +kernel
theorem i64_shr (x : Int64) {k : Nat} (hk : k < 64) : (x >>> ((nI k).toInt64 &&& 63)).toInt = x.toInt / 2 ^ k := by
  have h := sh_cnt ⟨k, hk⟩
  have h1 : (nI k).toInt64 &&& 63 = Int64.ofNat k := h.1
  have h2 : ((Int64.ofNat k).toBitVec.smod (64 : BitVec 64)).toNat = k := h.2
  rw [h1]
  show (x >>> Int64.ofNat k).toBitVec.toInt = x.toInt / 2 ^ k
  rw [Int64.toBitVec_shiftRight, BitVec.sshiftRight_eq', BitVec.toInt_sshiftRight, h2, Int.shiftRight_eq_div_pow]
  rfl
theorem i64_shr1 (x : Int64) : (x >>> ((1 : Int32).toInt64 &&& 63)).toInt = x.toInt / 2 := by
  have := i64_shr x (k := 1) (by omega)
  rw [show nI 1 = (1 : Int32) by decide] at this
  rw [this]
  rfl
theorem i64_nat {x : Int64} (h : 0 ≤ x.toInt) : (x.toBitVec.toNat : Int) = x.toInt := by
  have e : x.toInt = x.toBitVec.toInt := rfl
  rw [e] at h ⊢
  rw [BitVec.toInt_eq_toNat_of_msb]
  rw [BitVec.msb_eq_toInt]
  simpa using h
theorem i64_of_nat {x : Int64} {n : Nat} (h : x.toBitVec.toNat = n) (hn : n < 2 ^ 63) : x.toInt = n := by
  have e : x.toInt = x.toBitVec.toInt := rfl
  rw [e, BitVec.toInt_eq_toNat_cond, if_pos (by omega), h]
theorem i64_and1 {x : Int64} (h : 0 ≤ x.toInt) : (x &&& 1).toInt = x.toInt % 2 := by
  have e : (x &&& 1).toBitVec.toNat = x.toBitVec.toNat % 2 := by
    rw [Int64.toBitVec_and, BitVec.toNat_and]
    have : (1 : Int64).toBitVec.toNat = 1 := by decide
    rw [this, Nat.and_one_is_mod]
  rw [i64_of_nat e (by omega), ← i64_nat h]
  omega
theorem i64_msk {x : Int64} (h : 0 ≤ x.toInt) : (x &&& 524287).toInt = x.toInt % 524288 := by
  have e : (x &&& 524287).toBitVec.toNat = x.toBitVec.toNat % 524288 := by
    rw [Int64.toBitVec_and, BitVec.toNat_and]
    have : (524287 : Int64).toBitVec.toNat = 2 ^ 19 - 1 := by decide
    rw [this, Nat.and_two_pow_sub_one_eq_mod]
  rw [i64_of_nat e (by omega), ← i64_nat h]
  omega
theorem i64_eq {x y : Int64} : x = y ↔ x.toInt = y.toInt := Int64.toInt_inj.symm
theorem i64_le {x y : Int64} : x ≤ y ↔ x.toInt ≤ y.toInt := Int64.le_iff_toInt_le
theorem i64_lt {x y : Int64} : x < y ↔ x.toInt < y.toInt := Int64.lt_iff_toInt_lt
theorem i64_add {x y : Int64} (h1 : -2 ^ 63 ≤ x.toInt + y.toInt) (h2 : x.toInt + y.toInt < 2 ^ 63) : (x + y).toInt = x.toInt + y.toInt := by
  rw [Int64.toInt_add]
  apply Int.bmod_eq_of_le <;> omega
theorem i64_sub {x y : Int64} (h1 : -2 ^ 63 ≤ x.toInt - y.toInt) (h2 : x.toInt - y.toInt < 2 ^ 63) : (x - y).toInt = x.toInt - y.toInt := by
  rw [Int64.toInt_sub]
  apply Int.bmod_eq_of_le <;> omega
theorem i64_mul {x y : Int64} (h1 : -2 ^ 63 ≤ x.toInt * y.toInt) (h2 : x.toInt * y.toInt < 2 ^ 63) : (x * y).toInt = x.toInt * y.toInt := by
  rw [Int64.toInt_mul]
  apply Int.bmod_eq_of_le <;> omega
theorem i64_neg {x : Int64} (h1 : -2 ^ 63 < x.toInt) : (-x).toInt = - x.toInt := by
  have h2 := Int64.toInt_lt x
  rw [Int64.toInt_neg]
  apply Int.bmod_eq_of_le <;> omega
theorem i64_rng (x : Int64) : -2 ^ 63 ≤ x.toInt ∧ x.toInt < 2 ^ 63 := ⟨Int64.le_toInt x, Int64.toInt_lt x⟩
theorem i64_div {x y : Int64} (hx : 0 ≤ x.toInt) (hy : 0 < y.toInt) : (x / y).toInt = x.toInt / y.toInt := by
  rw [Int64.toInt_div, Int.tdiv_eq_ediv_of_nonneg hx]
  have h1 := Int.ediv_le_self y.toInt hx
  have h2 : 0 ≤ x.toInt / y.toInt := Int.ediv_nonneg hx (by omega)
  have h3 := Int64.toInt_lt x
  apply Int.bmod_eq_of_le <;> omega
theorem i64_rem {x y : Int64} (hx : 0 ≤ x.toInt) (hy : 0 < y.toInt) : (x - x / y * y).toInt = x.toInt % y.toInt := by
  have h1 := i64_div hx hy
  have h2 := Int.ediv_mul_le x.toInt (b := y.toInt) (by omega)
  have h3 : 0 ≤ x.toInt / y.toInt := Int.ediv_nonneg hx (by omega)
  have h4 : 0 ≤ x.toInt / y.toInt * y.toInt := Int.mul_nonneg h3 (by omega)
  have h5 := i64_rng x
  have h6 : (x / y * y).toInt = x.toInt / y.toInt * y.toInt := by
    rw [i64_mul (by rw [h1]; omega) (by rw [h1]; omega), h1]
  have h7 := Int.emod_add_mul_ediv x.toInt y.toInt
  have h8 : x.toInt / y.toInt * y.toInt = y.toInt * (x.toInt / y.toInt) := Int.mul_comm _ _
  rw [i64_sub (by rw [h6]; omega) (by rw [h6]; omega), h6]
  omega
