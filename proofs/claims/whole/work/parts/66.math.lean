/-! Whole forms. -/
def sumZ (f : Nat → Int) : Nat → Int
  | 0 => 0
  | n + 1 => sumZ f n + f n
theorem sumZ_congr {f g : Nat → Int} : ∀ (n : Nat), (∀ k, k < n → f k = g k) → sumZ f n = sumZ g n
  | 0, _ => rfl
  | n + 1, h => by
    unfold sumZ
    rw [sumZ_congr n (fun k hk => h k (by omega)), h n (by omega)]
theorem sumZ_add (f g : Nat → Int) : ∀ n, sumZ (fun k => f k + g k) n = sumZ f n + sumZ g n
  | 0 => rfl
  | n + 1 => by
    unfold sumZ
    rw [sumZ_add f g n]
    omega
theorem sumZ_mul (c : Int) (f : Nat → Int) : ∀ n, sumZ (fun k => c * f k) n = c * sumZ f n
  | 0 => by simp [sumZ]
  | n + 1 => by
    unfold sumZ
    rw [sumZ_mul c f n, Int.mul_add]
theorem sumZ_mulr (c : Int) (f : Nat → Int) (n : Nat) : sumZ (fun k => f k * c) n = sumZ f n * c := by
  rw [Int.mul_comm, ← sumZ_mul]
  exact sumZ_congr n (fun k _ => Int.mul_comm _ _)
theorem sumZ_zero {f : Nat → Int} {n : Nat} (h : ∀ k, k < n → f k = 0) : sumZ f n = 0 := by
  induction n with
  | zero => rfl
  | succ n ih =>
    unfold sumZ
    rw [ih (fun k hk => h k (by omega)), h n (by omega)]
    rfl
theorem sumZ_comm (f : Nat → Nat → Int) (m : Nat) : ∀ n, sumZ (fun i => sumZ (fun j => f i j) m) n = sumZ (fun j => sumZ (fun i => f i j) n) m
  | 0 => by
    show (0 : Int) = sumZ (fun j => sumZ (fun i => f i j) 0) m
    exact (sumZ_zero (fun _ _ => rfl)).symm
  | n + 1 => by
    show sumZ (fun i => sumZ (fun j => f i j) m) n + sumZ (fun j => f n j) m = _
    rw [sumZ_comm f m n, ← sumZ_add]
    rfl
theorem sumZ_nonneg {f : Nat → Int} : ∀ n, (∀ k, k < n → 0 ≤ f k) → 0 ≤ sumZ f n
  | 0, _ => Int.le_refl 0
  | n + 1, h => by
    have h1 := sumZ_nonneg n (fun k hk => h k (by omega))
    have h2 := h n (by omega)
    unfold sumZ
    omega
theorem sumZ_one {f : Nat → Int} {n k : Nat} (hk : k < n) (h : ∀ j, j < n → j ≠ k → f j = 0) : sumZ f n = f k := by
  induction n with
  | zero => omega
  | succ n ih =>
    unfold sumZ
    by_cases e : k = n
    · subst e
      rw [sumZ_zero (fun j hj => h j (by omega) (by omega))]
      omega
    · rw [ih (by omega) (fun j hj => h j (by omega)), h n (by omega) (by omega)]
      omega
/-- the meeting of x and y -/
def qB (T : Nat → Nat → Int) (n : Nat) (x y : Nat → Int) : Int := sumZ (fun i => sumZ (fun j => x i * T i j * y j) n) n
def qQ (T : Nat → Nat → Int) (n : Nat) (x : Nat → Int) : Int := qB T n x x
def qSym (T : Nat → Nat → Int) (n : Nat) : Prop := ∀ i j, i < n → j < n → T i j = T j i
def qPD (T : Nat → Nat → Int) (n : Nat) : Prop := qSym T n ∧ ∀ x : Nat → Int, (∃ i, i < n ∧ x i ≠ 0) → 0 < qQ T n x
theorem qB_congr {T T' : Nat → Nat → Int} {n : Nat} {x x' y y' : Nat → Int} (hT : ∀ i j, i < n → j < n → T i j = T' i j) (hx : ∀ i, i < n → x i = x' i) (hy : ∀ i, i < n → y i = y' i) : qB T n x y = qB T' n x' y' :=
  sumZ_congr n (fun i hi => sumZ_congr n (fun j hj => by rw [hT i j hi hj, hx i hi, hy j hj]))
theorem qB_sym {T : Nat → Nat → Int} {n : Nat} (h : qSym T n) (x y : Nat → Int) : qB T n x y = qB T n y x := by
  unfold qB
  rw [sumZ_comm]
  refine sumZ_congr n (fun j hj => sumZ_congr n (fun i hi => ?_))
  rw [h i j hi hj, Int.mul_comm (x i), Int.mul_comm (y j), Int.mul_assoc, Int.mul_assoc, Int.mul_comm (x i)]
theorem qB_addl (T : Nat → Nat → Int) (n : Nat) (x x' y : Nat → Int) : qB T n (fun i => x i + x' i) y = qB T n x y + qB T n x' y := by
  unfold qB
  rw [← sumZ_add]
  refine sumZ_congr n (fun i _ => ?_)
  rw [← sumZ_add]
  refine sumZ_congr n (fun j _ => ?_)
  rw [Int.add_mul, Int.add_mul]
theorem qB_mull (T : Nat → Nat → Int) (n : Nat) (c : Int) (x y : Nat → Int) : qB T n (fun i => c * x i) y = c * qB T n x y := by
  unfold qB
  rw [← sumZ_mul]
  refine sumZ_congr n (fun i _ => ?_)
  rw [← sumZ_mul]
  refine sumZ_congr n (fun j _ => ?_)
  rw [Int.mul_assoc, Int.mul_assoc, Int.mul_assoc]
theorem qB_addr (T : Nat → Nat → Int) (n : Nat) (x y y' : Nat → Int) : qB T n x (fun i => y i + y' i) = qB T n x y + qB T n x y' := by
  unfold qB
  rw [← sumZ_add]
  refine sumZ_congr n (fun i _ => ?_)
  rw [← sumZ_add]
  refine sumZ_congr n (fun j _ => ?_)
  rw [Int.mul_add]
theorem qB_mulr (T : Nat → Nat → Int) (n : Nat) (c : Int) (x y : Nat → Int) : qB T n x (fun i => c * y i) = c * qB T n x y := by
  unfold qB
  rw [← sumZ_mul]
  refine sumZ_congr n (fun i _ => ?_)
  rw [← sumZ_mul]
  refine sumZ_congr n (fun j _ => ?_)
  rw [Int.mul_left_comm]
theorem qB_line (T : Nat → Nat → Int) (n : Nat) (x y : Nat → Int) : qB T n x y = sumZ (fun i => x i * sumZ (fun j => T i j * y j) n) n := by
  unfold qB
  refine sumZ_congr n (fun i _ => ?_)
  rw [← sumZ_mul]
  exact sumZ_congr n (fun j _ => Int.mul_assoc _ _ _)
theorem qQ_add {T : Nat → Nat → Int} {n : Nat} (h : qSym T n) (x y : Nat → Int) (a b : Int) : qQ T n (fun i => a * x i + b * y i) = a * a * qQ T n x + 2 * (a * b) * qB T n x y + b * b * qQ T n y := by
  unfold qQ
  rw [qB_addl T n (fun i => a * x i) (fun i => b * y i), qB_addr T n _ (fun i => a * x i) (fun i => b * y i), qB_addr T n _ (fun i => a * x i) (fun i => b * y i)]
  rw [qB_mull, qB_mull, qB_mulr, qB_mulr, qB_mull, qB_mull, qB_mulr, qB_mulr, qB_sym h y x]
  grind
/-! determinants and what goes with them -/
def sgZ (j : Nat) : Int := if j % 2 = 0 then 1 else -1
def mnZ (s : Nat → Int) (n : Nat) : Int := if n = 1 then 1 else if n = 2 then s 0 else if n = 3 then s 0 * s 3 - s 1 * s 2 else s 0 * (s 4 * s 8 - s 5 * s 7) - s 1 * (s 3 * s 8 - s 5 * s 6) + s 2 * (s 3 * s 7 - s 4 * s 6)
def mnEZ (A : Nat → Nat → Int) (n l c j : Nat) : Int := A (skp l (j / (n - 1))) (skp c (j % (n - 1)))
def coZ (T : Nat → Nat → Int) (n i k : Nat) : Int := sgZ (i + k) * mnZ (mnEZ T n i k) n
def dtZ (T : Nat → Nat → Int) (n : Nat) : Int := sumZ (fun j => sgZ j * T 0 j * mnZ (mnEZ T n 0 j) n) n
