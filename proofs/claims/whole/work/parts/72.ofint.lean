/-! Sums and products of longs as those of whole numbers. -/
theorem oI (x : Int64) : x = Int64.ofInt x.toInt := (Int64.ofInt_toInt x).symm
theorem oI_in {z : Int} (h1 : -2 ^ 63 ≤ z) (h2 : z < 2 ^ 63) : (Int64.ofInt z).toInt = z := Int64.toInt_ofInt_of_le (by omega) (by omega)
theorem sumL_oI {f : Nat → Int64} {g : Nat → Int} : ∀ (n : Nat), (∀ k, k < n → f k = Int64.ofInt (g k)) → sumL f n = Int64.ofInt (sumZ g n)
  | 0, _ => rfl
  | n + 1, h => by
    show sumL f n + f n = Int64.ofInt (sumZ g n + g n)
    rw [sumL_oI n (fun k hk => h k (by omega)), h n (by omega), Int64.ofInt_add]
def lT (F : Nat → Nat → Int64) : Nat → Nat → Int := fun i j => (F i j).toInt
theorem mnV_oI (s : Nat → Int64) (n : Nat) : mnV s n = Int64.ofInt (mnZ (fun j => (s j).toInt) n) := by
  unfold mnV mnZ
  split
  · rfl
  · split
    · exact oI _
    · split
      · rw [Int64.ofInt_sub, Int64.ofInt_mul, Int64.ofInt_mul, ← oI, ← oI, ← oI, ← oI]
      · simp only [Int64.ofInt_sub, Int64.ofInt_mul, Int64.ofInt_add, ← oI]
theorem mnE_oI (F : Nat → Nat → Int64) (n l c : Nat) : mnV (mnE F n l c) n = Int64.ofInt (mnZ (mnEZ (lT F) n l c) n) := mnV_oI _ n
theorem sgn_oI (j : Nat) : sgn j = Int64.ofInt (sgZ j) := by
  unfold sgn sgZ
  split <;> rfl
theorem dtV_oI (F : Nat → Nat → Int64) (n : Nat) : ∀ j, dtV F n j = Int64.ofInt (sumZ (fun j => sgZ j * lT F 0 j * mnZ (mnEZ (lT F) n 0 j) n) j)
  | 0 => rfl
  | j + 1 => by
    show dtV F n j + sgn j * F 0 j * mnV (mnE F n 0 j) n = Int64.ofInt (_ + _)
    rw [dtV_oI F n j, sgn_oI, mnE_oI, Int64.ofInt_add, Int64.ofInt_mul, Int64.ofInt_mul]
    congr 3
    exact oI _
theorem dtZ_oI (F : Nat → Nat → Int64) (n : Nat) : dtV F n n = Int64.ofInt (dtZ (lT F) n) := dtV_oI F n n
theorem co_oI (F : Nat → Nat → Int64) (n i k : Nat) : sgn (i + k) * mnV (mnE F n i k) n = Int64.ofInt (coZ (lT F) n i k) := by
  unfold coZ
  rw [Int64.ofInt_mul, sgn_oI, mnE_oI]
/-! bounds -/
def bd (a A : Int) : Prop := -A ≤ a ∧ a ≤ A
theorem bd.mul {a b A B : Int} (h : bd a A) (k : bd b B) : bd (a * b) (A * B) := by
  obtain ⟨h1, h2⟩ := h
  obtain ⟨k1, k2⟩ := k
  have hA : 0 ≤ A := by omega
  have hB : 0 ≤ B := by omega
  unfold bd
  by_cases za : 0 ≤ a
  · by_cases zb : 0 ≤ b
    · have := Int.mul_le_mul h2 k2 zb hA
      have := Int.mul_nonneg za zb
      have := Int.mul_nonneg hA hB
      omega
    · have := Int.mul_le_mul h2 (show -b ≤ B by omega) (show 0 ≤ -b by omega) hA
      rw [Int.mul_neg] at this
      have := Int.mul_nonneg za (show 0 ≤ -b by omega)
      rw [Int.mul_neg] at this
      have := Int.mul_nonneg hA hB
      omega
  · by_cases zb : 0 ≤ b
    · have := Int.mul_le_mul (show -a ≤ A by omega) k2 zb hA
      rw [Int.neg_mul] at this
      have := Int.mul_nonneg (show 0 ≤ -a by omega) zb
      rw [Int.neg_mul] at this
      have := Int.mul_nonneg hA hB
      omega
    · have := Int.mul_le_mul (show -a ≤ A by omega) (show -b ≤ B by omega) (show 0 ≤ -b by omega) hA
      rw [Int.neg_mul_neg] at this
      have := Int.mul_nonneg (show 0 ≤ -a by omega) (show 0 ≤ -b by omega)
      rw [Int.neg_mul_neg] at this
      have := Int.mul_nonneg hA hB
      omega
theorem bd.add {a b A B : Int} (h : bd a A) (k : bd b B) : bd (a + b) (A + B) := by unfold bd at *; omega
theorem bd.sub {a b A B : Int} (h : bd a A) (k : bd b B) : bd (a - b) (A + B) := by unfold bd at *; omega
theorem bd.mono {a A B : Int} (h : bd a A) (k : A ≤ B) : bd a B := by unfold bd at *; omega
theorem bd.sum {f : Nat → Int} {A : Int} : ∀ (n : Nat), (∀ k, k < n → bd (f k) A) → bd (sumZ f n) (n * A)
  | 0, _ => by unfold bd sumZ; omega
  | n + 1, h => by
    have h1 := bd.sum n (fun k hk => h k (by omega))
    have h2 := h n (by omega)
    have e : ((n + 1 : Nat) : Int) * A = n * A + A := by rw [Int.natCast_add, Int.add_mul]; omega
    rw [e]
    exact h1.add h2
theorem sgZ_bd (j : Nat) : bd (sgZ j) 1 := by
  unfold sgZ bd
  split <;> omega
theorem mnZ_bd {s : Nat → Int} {n : Nat} (hp : 1 ≤ n) (hn : n ≤ 4) (h : ∀ j, j < (n - 1) * (n - 1) → bd (s j) 999) : bd (mnZ s n) 5982017994 := by
  unfold mnZ
  split
  · unfold bd; omega
  · split
    · rename_i h1 h2
      subst h2
      exact (h 0 (by omega)).mono (by omega)
    · split
      · rename_i h1 h2 h3
        subst h3
        exact (((h 0 (by omega)).mul (h 3 (by omega))).sub ((h 1 (by omega)).mul (h 2 (by omega)))).mono (by omega)
      · rename_i h1 h2 h3
        obtain rfl : n = 4 := by omega
        exact ((((h 0 (by omega)).mul (((h 4 (by omega)).mul (h 8 (by omega))).sub ((h 5 (by omega)).mul (h 7 (by omega))))).sub ((h 1 (by omega)).mul (((h 3 (by omega)).mul (h 8 (by omega))).sub ((h 5 (by omega)).mul (h 6 (by omega)))))).add ((h 2 (by omega)).mul (((h 3 (by omega)).mul (h 7 (by omega))).sub ((h 4 (by omega)).mul (h 6 (by omega)))))).mono (by omega)
