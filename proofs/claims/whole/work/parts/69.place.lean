/-! Places in a box. -/
def plZ (sp lo x : Nat → Int) : Nat → Int
  | 0 => 0
  | k + 1 => plZ sp lo x k * sp k + (x k - lo k)
def prZ (sp : Nat → Int) : Nat → Int
  | 0 => 1
  | k + 1 => prZ sp k * sp k
def inBx (sp lo x : Nat → Int) (n : Nat) : Prop := ∀ k, k < n → lo k ≤ x k ∧ x k < lo k + sp k
theorem plZ_congr {sp lo x y : Nat → Int} : ∀ (n : Nat), (∀ k, k < n → x k = y k) → plZ sp lo x n = plZ sp lo y n
  | 0, _ => rfl
  | n + 1, h => by
    unfold plZ
    rw [plZ_congr n (fun k hk => h k (by omega)), h n (by omega)]
theorem plZ_rng {sp lo x : Nat → Int} : ∀ (n : Nat), inBx sp lo x n → 0 ≤ plZ sp lo x n ∧ plZ sp lo x n < prZ sp n
  | 0, _ => by unfold plZ prZ; omega
  | n + 1, h => by
    obtain ⟨h1, h2⟩ := plZ_rng n (fun k hk => h k (by omega))
    obtain ⟨h3, h4⟩ := h n (by omega)
    unfold plZ prZ
    have h5 : 0 ≤ plZ sp lo x n * sp n := Int.mul_nonneg h1 (by omega)
    have h6 : (plZ sp lo x n + 1) * sp n ≤ prZ sp n * sp n := Int.mul_le_mul_of_nonneg_right (by omega) (by omega)
    rw [Int.add_mul] at h6
    omega
/-- places divided from the last on -/
def dvZ (sp : Nat → Int) (n : Nat) (p : Int) : Nat → Int
  | 0 => p
  | j + 1 => dvZ sp n p j / sp (n - 1 - j)
theorem dvZ_pl {sp lo x : Nat → Int} {n : Nat} (h : inBx sp lo x n) : ∀ j, j ≤ n → dvZ sp n (plZ sp lo x n) j = plZ sp lo x (n - j)
  | 0, _ => rfl
  | j + 1, hj => by
    unfold dvZ
    rw [dvZ_pl h j (by omega)]
    obtain ⟨k, hk⟩ : ∃ k, n - j = k + 1 := ⟨n - j - 1, by omega⟩
    have e1 : n - 1 - j = k := by omega
    have e2 : n - (j + 1) = k := by omega
    rw [hk, e1, e2]
    obtain ⟨h3, h4⟩ := h k (by omega)
    show (plZ sp lo x k * sp k + (x k - lo k)) / sp k = plZ sp lo x k
    rw [Int.add_comm, Int.add_mul_ediv_right _ _ (by omega), Int.ediv_eq_zero_of_lt (by omega) (by omega)]
    omega
def unZ (sp lo : Nat → Int) (n : Nat) (p : Int) : Nat → Int := fun k => lo k + dvZ sp n p (n - 1 - k) % sp k
theorem unZ_pl {sp lo x : Nat → Int} {n k : Nat} (h : inBx sp lo x n) (hk : k < n) : unZ sp lo n (plZ sp lo x n) k = x k := by
  unfold unZ
  rw [dvZ_pl h (n - 1 - k) (by omega), show n - (n - 1 - k) = k + 1 by omega]
  obtain ⟨h3, h4⟩ := h k hk
  show lo k + (plZ sp lo x k * sp k + (x k - lo k)) % sp k = x k
  rw [Int.add_comm (plZ sp lo x k * sp k), Int.add_mul_emod_self_right, Int.emod_eq_of_lt (by omega) (by omega)]
  omega
theorem unZ_in {sp lo : Nat → Int} {n : Nat} {p : Int} (hs : ∀ k, k < n → 0 < sp k) : inBx sp lo (unZ sp lo n p) n := fun k hk => by
  have h := hs k hk
  have h1 := Int.emod_nonneg (dvZ sp n p (n - 1 - k)) (show sp k ≠ 0 by omega)
  have h2 := Int.emod_lt_of_pos (dvZ sp n p (n - 1 - k)) h
  unfold unZ
  omega
theorem prZ_pos {sp : Nat → Int} : ∀ (n : Nat), (∀ k, k < n → 0 < sp k) → 0 < prZ sp n
  | 0, _ => by unfold prZ; omega
  | n + 1, h => by
    unfold prZ
    exact Int.mul_pos (prZ_pos n (fun k hk => h k (by omega))) (h n (by omega))
theorem prZ_ge {sp : Nat → Int} : ∀ (n : Nat), (∀ k, k < n → 0 < sp k) → ∀ k, k < n → sp k ≤ prZ sp n
  | 0, _, k, hk => absurd hk (by omega)
  | n + 1, h, k, hk => by
    unfold prZ
    have h1 := prZ_pos n (fun j hj => h j (by omega))
    have h2 := h n (by omega)
    by_cases e : k = n
    · subst e
      have := Int.mul_le_mul_of_nonneg_right (show (1 : Int) ≤ prZ sp k by omega) (show 0 ≤ sp k by omega)
      omega
    · have h3 := prZ_ge n (fun j hj => h j (by omega)) k (by omega)
      have := Int.mul_le_mul_of_nonneg_left (show (1 : Int) ≤ sp n by omega) (show 0 ≤ prZ sp n by omega)
      omega
/-- place after unplacing: by prefixes -/
theorem dvZ_shift (sp : Nat → Int) (n : Nat) (p : Int) : ∀ j, j ≤ n → dvZ sp (n + 1) p (j + 1) = dvZ sp n (p / sp n) j
  | 0, _ => by
    unfold dvZ
    rfl
  | j + 1, hj => by
    show dvZ sp (n + 1) p (j + 1) / sp (n + 1 - 1 - (j + 1)) = dvZ sp n (p / sp n) j / sp (n - 1 - j)
    rw [dvZ_shift sp n p j (by omega), show n + 1 - 1 - (j + 1) = n - 1 - j by omega]
theorem plZ_un {sp lo : Nat → Int} : ∀ (n : Nat) (p : Int), (∀ k, k < n → 0 < sp k) → 0 ≤ p → p < prZ sp n → plZ sp lo (unZ sp lo n p) n = p
  | 0, p, _, h1, h2 => by
    unfold prZ at h2
    unfold plZ
    omega
  | n + 1, p, hs, h1, h2 => by
    have hn := hs n (by omega)
    unfold prZ at h2
    have h3 : p / sp n < prZ sp n := Int.ediv_lt_of_lt_mul hn h2
    have h4 : 0 ≤ p / sp n := Int.ediv_nonneg h1 (by omega)
    have ih := plZ_un (lo := lo) n (p / sp n) (fun k hk => hs k (by omega)) h4 h3
    have e : plZ sp lo (unZ sp lo (n + 1) p) n = plZ sp lo (unZ sp lo n (p / sp n)) n := by
      refine plZ_congr n (fun k hk => ?_)
      unfold unZ
      obtain ⟨j, hj⟩ : ∃ j, n + 1 - 1 - k = j + 1 := ⟨n - 1 - k, by omega⟩
      rw [hj, dvZ_shift sp n p j (by omega), show n - 1 - k = j by omega]
    show plZ sp lo (unZ sp lo (n + 1) p) n * sp n + (unZ sp lo (n + 1) p n - lo n) = p
    rw [e, ih]
    have e2 : unZ sp lo (n + 1) p n = lo n + p % sp n := by
      unfold unZ
      rw [show n + 1 - 1 - n = 0 by omega]
      rfl
    rw [e2]
    have := Int.emod_add_mul_ediv p (sp n)
    rw [Int.mul_comm (p / sp n)]
    omega
theorem plZ_inj {sp lo x y : Nat → Int} {n : Nat} (hx : inBx sp lo x n) (hy : inBx sp lo y n) (e : plZ sp lo x n = plZ sp lo y n) : ∀ k, k < n → x k = y k := fun k hk => by
  rw [← unZ_pl hx hk, e, unZ_pl hy hk]
/-! the walk through a box -/
def aZ (f : Nat → Int64) : Nat → Int := fun k => (f k).toInt
theorem goF_spec {hi lo : Nat → Int64} : ∀ (n : Nat) (x : Nat → Int64), (∀ k, k < n → (lo k).toInt ≤ (x k).toInt ∧ (x k).toInt ≤ (hi k).toInt) →
    ((goF hi lo n x).1 = 1 ∧ (∀ k, k < n → (lo k).toInt ≤ ((goF hi lo n x).2 k).toInt ∧ ((goF hi lo n x).2 k).toInt ≤ (hi k).toInt) ∧ plZ (fun k => (hi k).toInt - (lo k).toInt + 1) (aZ lo) (aZ (goF hi lo n x).2) n = plZ (fun k => (hi k).toInt - (lo k).toInt + 1) (aZ lo) (aZ x) n + 1 ∧ ∀ k, n ≤ k → (goF hi lo n x).2 k = x k) ∨
    ((goF hi lo n x).1 = 0 ∧ plZ (fun k => (hi k).toInt - (lo k).toInt + 1) (aZ lo) (aZ x) n + 1 = prZ (fun k => (hi k).toInt - (lo k).toInt + 1) n ∧ ∀ k, n ≤ k → (goF hi lo n x).2 k = x k)
  | 0, x, _ => Or.inr ⟨rfl, rfl, fun _ _ => rfl⟩
  | i + 1, x, h => by
    unfold goF
    obtain ⟨hi1, hi2⟩ := h i (by omega)
    by_cases e : x i = hi i
    · rw [if_pos e]
      have ih := goF_spec (hi := hi) (lo := lo) i (upL x i (lo i)) (fun k hk => by
        unfold upL
        rw [if_neg (by omega)]
        exact h k (by omega))
      have hp : plZ (fun k => (hi k).toInt - (lo k).toInt + 1) (aZ lo) (aZ (upL x i (lo i))) i = plZ (fun k => (hi k).toInt - (lo k).toInt + 1) (aZ lo) (aZ x) i := plZ_congr i (fun k hk => by
        unfold aZ upL
        rw [if_neg (by omega)])
      rw [hp] at ih
      rcases ih with ⟨g1, g2, g3, g4⟩ | ⟨g1, g3, g4⟩
      · refine Or.inl ⟨g1, fun k hk => ?_, ?_, fun k hk => ?_⟩
        · by_cases z : k = i
          · subst z
            rw [g4 k (by omega)]
            unfold upL
            rw [if_pos rfl]
            omega
          · exact g2 k (by omega)
        · show plZ _ _ _ i * _ + (aZ (goF hi lo i (upL x i (lo i))).2 i - aZ lo i) = plZ _ _ _ i * _ + (aZ x i - aZ lo i) + 1
          rw [g3]
          have e3 : aZ (goF hi lo i (upL x i (lo i))).2 i = aZ lo i := by
            unfold aZ
            rw [g4 i (by omega)]
            unfold upL
            rw [if_pos rfl]
          have e4 : aZ x i = (hi i).toInt := by unfold aZ; rw [e]
          rw [e3, e4, Int.add_mul]
          dsimp only [aZ]
          omega
        · rw [g4 k (by omega)]
          unfold upL
          rw [if_neg (by omega)]
      · refine Or.inr ⟨g1, ?_, fun k hk => ?_⟩
        · show plZ _ _ _ i * _ + (aZ x i - aZ lo i) + 1 = prZ _ i * _
          rw [← g3, Int.add_mul]
          have e4 : aZ x i = (hi i).toInt := by unfold aZ; rw [e]
          rw [e4]
          dsimp only [aZ]
          omega
        · rw [g4 k (by omega)]
          unfold upL
          rw [if_neg (by omega)]
    · rw [if_neg e]
      have hlt : (x i).toInt < (hi i).toInt := by
        rcases Int.lt_or_eq_of_le hi2 with q | q
        · exact q
        · exact absurd (Int64.toInt_inj.mp q) e
      have one : (1 : Int64).toInt = 1 := by decide
      have r1 := i64_rng (hi i)
      have r2 := i64_rng (x i)
      have hs : (x i + 1).toInt = (x i).toInt + 1 := by rw [i64_add (by rw [one]; omega) (by rw [one]; omega), one]
      refine Or.inl ⟨rfl, fun k hk => ?_, ?_, fun k hk => ?_⟩
      · show _ ≤ (upL x i (x i + 1) k).toInt ∧ (upL x i (x i + 1) k).toInt ≤ _
        unfold upL
        by_cases z : k = i
        · subst z
          rw [if_pos rfl, hs]
          omega
        · rw [if_neg z]
          exact h k hk
      · show plZ _ _ (aZ (upL x i (x i + 1))) i * _ + (aZ (upL x i (x i + 1)) i - aZ lo i) = plZ _ _ _ i * _ + (aZ x i - aZ lo i) + 1
        have e1 : aZ (upL x i (x i + 1)) i = (x i).toInt + 1 := by
          unfold aZ upL
          rw [if_pos rfl, hs]
        have e2 : plZ (fun k => (hi k).toInt - (lo k).toInt + 1) (aZ lo) (aZ (upL x i (x i + 1))) i = plZ (fun k => (hi k).toInt - (lo k).toInt + 1) (aZ lo) (aZ x) i := plZ_congr i (fun k hk => by
          unfold aZ upL
          rw [if_neg (by omega)])
        rw [e1, e2]
        unfold aZ
        omega
      · show upL x i (x i + 1) k = x k
        unfold upL
        rw [if_neg (by omega)]
