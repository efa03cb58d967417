/-! Division downwards. -/
theorem i64_msb (x : Int64) : x.toBitVec.msb = decide (x.toInt < 0) := BitVec.msb_eq_toInt
theorem i64_xor {x y : Int64} (hy : 0 ≤ y.toInt) : (0 ≤ x ^^^ y) ↔ 0 ≤ x.toInt := by
  have z0 : (0 : Int64).toInt = 0 := by decide
  rw [i64_le, z0]
  have h1 := i64_msb (x ^^^ y)
  rw [Int64.toBitVec_xor, BitVec.msb_xor, i64_msb, i64_msb, decide_eq_false (by omega : ¬ y.toInt < 0), Bool.xor_false] at h1
  have h2 : x.toInt < 0 ↔ (x ^^^ y).toInt < 0 := by
    exact decide_eq_decide.mp h1
  omega
theorem flO_int {x y : Int64} (hy : 0 < y.toInt) : (flO x y).toInt = x.toInt / y.toInt := by
  have z0 : (0 : Int64).toInt = 0 := by decide
  have one : (1 : Int64).toInt = 1 := by decide
  have hx := i64_rng x
  unfold flO
  rw [if_neg (by rw [i64_le, z0]; omega)]
  unfold jFd
  by_cases hs : 0 ≤ x.toInt
  · rw [if_pos ((i64_xor (by omega)).mpr hs)]
    exact i64_div hs hy
  · rw [if_neg (fun w => hs ((i64_xor (by omega)).mp w))]
    have hq : (x / y).toInt = - ((- x.toInt) / y.toInt) := by
      rw [Int64.toInt_div]
      have e : x.toInt.tdiv y.toInt = - ((- x.toInt) / y.toInt) := by
        have : x.toInt.tdiv y.toInt = - ((- x.toInt).tdiv y.toInt) := by rw [Int.neg_tdiv]; omega
        rw [this, Int.tdiv_eq_ediv_of_nonneg (by omega)]
      rw [e]
      have h1 := Int.ediv_le_self y.toInt (show 0 ≤ - x.toInt by omega)
      have h2 : 0 ≤ (- x.toInt) / y.toInt := Int.ediv_nonneg (by omega) (by omega)
      apply Int.bmod_eq_of_le <;> omega
    have hm := Int.emod_add_mul_ediv (- x.toInt) y.toInt
    have hm0 := Int.emod_nonneg (- x.toInt) (show y.toInt ≠ 0 by omega)
    have hm1 := Int.emod_lt_of_pos (- x.toInt) hy
    have h2 : 0 ≤ (- x.toInt) / y.toInt := Int.ediv_nonneg (by omega) (by omega)
    have h3 : 0 ≤ y.toInt * ((- x.toInt) / y.toInt) := Int.mul_nonneg (by omega) h2
    have hp : (x / y * y).toInt = - (y.toInt * ((- x.toInt) / y.toInt)) := by
      have e : (x / y).toInt * y.toInt = - (y.toInt * ((- x.toInt) / y.toInt)) := by rw [hq, Int.neg_mul, Int.mul_comm]
      rw [i64_mul (by rw [e]; omega) (by rw [e]; omega), e]
    by_cases hz : x / y * y = x
    · rw [if_pos hz, hq]
      rw [i64_eq, hp] at hz
      exact ((Int.ediv_emod_unique (a := x.toInt) (q := - ((- x.toInt) / y.toInt)) (r := 0) hy).mpr ⟨by rw [Int.mul_neg]; omega, by omega, hy⟩).1.symm
    · rw [if_neg hz]
      rw [i64_eq, hp] at hz
      have hql := Int.ediv_le_self y.toInt (show 0 ≤ - x.toInt by omega)
      have hr : (x / y - 1).toInt = - ((- x.toInt) / y.toInt) - 1 := by
        rcases Int.lt_or_eq_of_le (show 1 ≤ y.toInt by omega) with w | w
        · have h5 : 2 * ((- x.toInt) / y.toInt) ≤ y.toInt * ((- x.toInt) / y.toInt) := Int.mul_le_mul_of_nonneg_right (by omega) h2
          rw [i64_sub (by rw [hq, one]; omega) (by rw [hq, one]; omega), hq, one]
        · exfalso
          apply hz
          rw [← w] at hm ⊢
          omega
      rw [hr]
      exact ((Int.ediv_emod_unique (a := x.toInt) (q := - ((- x.toInt) / y.toInt) - 1) (r := y.toInt - (- x.toInt) % y.toInt) hy).mpr ⟨by rw [Int.mul_sub, Int.mul_neg, Int.mul_one]; omega, by omega, by omega⟩).1.symm
