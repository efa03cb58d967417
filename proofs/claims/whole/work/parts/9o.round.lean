/-! Steps as coordinates. -/
theorem adjC {T : Nat → Nat → Int} {n j k : Nat} (hn : 1 ≤ n ∧ n ≤ 4) (hj : j < n) (hk : k < n) : sumZ (fun i => coZ T n i k * T i j) n = if k = j then dtZ T n else 0 := by
  have : n = 1 ∨ n = 2 ∨ n = 3 ∨ n = 4 := by omega
  rcases this with rfl | rfl | rfl | rfl
  · obtain rfl : j = 0 := by omega
    obtain rfl : k = 0 := by omega
    simp [sumZ, coZ, dtZ, mnZ, mnEZ, skp, sgZ]
  · rcases (by omega : j = 0 ∨ j = 1) with rfl | rfl <;> rcases (by omega : k = 0 ∨ k = 1) with rfl | rfl <;> (simp [sumZ, coZ, dtZ, mnZ, mnEZ, skp, sgZ]; try grind)
  · rcases (by omega : j = 0 ∨ j = 1 ∨ j = 2) with rfl | rfl | rfl <;> rcases (by omega : k = 0 ∨ k = 1 ∨ k = 2) with rfl | rfl | rfl <;> (simp [sumZ, coZ, dtZ, mnZ, mnEZ, skp, sgZ]; try grind)
  · rcases (by omega : j = 0 ∨ j = 1 ∨ j = 2 ∨ j = 3) with rfl | rfl | rfl | rfl <;> rcases (by omega : k = 0 ∨ k = 1 ∨ k = 2 ∨ k = 3) with rfl | rfl | rfl | rfl <;> (simp [sumZ, coZ, dtZ, mnZ, mnEZ, skp, sgZ]; try grind)
/-- a row of rows -/
def cmb (B : Nat → Nat → Int) (c : Nat → Int) (m : Nat) : Nat → Int := fun j => sumZ (fun k => c k * B k j) m
/-- the coordinates, times the determinant -/
def aC (B : Nat → Nat → Int) (n : Nat) (x : Nat → Int) (i : Nat) : Int := lin n (fun j => coZ B n i j) x
theorem aC_cmb {B : Nat → Nat → Int} {n i : Nat} {c : Nat → Int} (hn : 1 ≤ n ∧ n ≤ 4) (hi : i < n) : aC B n (cmb B c n) i = c i * dtZ B n := by
  have e : aC B n (cmb B c n) i = sumZ (fun k => c k * sumZ (fun j => B k j * coZ B n i j) n) n := by
    unfold aC lin cmb
    have a : ∀ j, coZ B n i j * sumZ (fun k => c k * B k j) n = sumZ (fun k => coZ B n i j * (c k * B k j)) n := fun j => (sumZ_mul _ _ _).symm
    rw [sumZ_congr n (fun j _ => a j), sumZ_comm]
    refine sumZ_congr n (fun k _ => ?_)
    rw [← sumZ_mul]
    exact sumZ_congr n (fun j _ => by grind)
  rw [e, sumZ_one hi (fun k hk hki => by rw [adjN hn.1 hn.2 hk hi, if_neg hki, Int.mul_zero]), adjN hn.1 hn.2 hi hi, if_pos rfl]
theorem cmb_aC {B : Nat → Nat → Int} {n j : Nat} {x : Nat → Int} (hn : 1 ≤ n ∧ n ≤ 4) (hj : j < n) : cmb B (aC B n x) n j = dtZ B n * x j := by
  have e : cmb B (aC B n x) n j = sumZ (fun k => x k * sumZ (fun i => coZ B n i k * B i j) n) n := by
    unfold aC lin cmb
    have a : ∀ i, sumZ (fun k => coZ B n i k * x k) n * B i j = sumZ (fun k => coZ B n i k * x k * B i j) n := fun i => (sumZ_mulr _ _ _).symm
    rw [sumZ_congr n (fun i _ => a i), sumZ_comm]
    refine sumZ_congr n (fun k _ => ?_)
    rw [← sumZ_mul]
    exact sumZ_congr n (fun j _ => by grind)
  rw [e, sumZ_one hj (fun k hk hki => by rw [adjC hn hj hk, if_neg hki, Int.mul_zero]), adjC hn hj hj, if_pos rfl, Int.mul_comm]
theorem cmb_congr {B : Nat → Nat → Int} {m j : Nat} {c c' : Nat → Int} (h : ∀ k, k < m → c k = c' k) : cmb B c m j = cmb B c' m j := by
  unfold cmb
  exact sumZ_congr m (fun k hk => by rw [h k hk])
theorem cmb_mul {B : Nat → Nat → Int} {m j : Nat} {c : Nat → Int} {a : Int} : cmb B (fun k => a * c k) m j = a * cmb B c m j := by
  unfold cmb
  rw [← sumZ_mul]
  exact sumZ_congr m (fun k hk => by rw [Int.mul_assoc])
theorem cmb_sub {B : Nat → Nat → Int} {m j : Nat} {c d : Nat → Int} {a : Int} : cmb B (fun k => c k - a * d k) m j = cmb B c m j - a * cmb B d m j := by
  have e : cmb B (fun k => c k - a * d k) m j = sumZ (fun k => c k * B k j + (-a) * (d k * B k j)) m := by
    unfold cmb
    exact sumZ_congr m (fun k _ => by grind)
  rw [e, sumZ_add, sumZ_mul]
  unfold cmb
  grind
/-- one number after another so that the size grows little -/
theorem round_pick {T B : Nat → Nat → Int} {n : Nat} {m0 q : Int} {r : Nat → Int} (hT : qPD T n) (hB : ∀ i, i < n → qQ T n (B i) = m0) (hq : 0 < q) (hr : ∀ i, 0 ≤ r i ∧ r i < q) : ∀ k, k ≤ n → ∃ f : Nat → Int, (∀ i, f i = r i ∨ f i = r i - q) ∧ qQ T n (cmb B f k) ≤ m0 * sumZ (fun i => r i * (q - r i)) k
  | 0, _ => ⟨r, fun i => Or.inl rfl, by
    have : qQ T n (cmb B r 0) = 0 := qQ_zero (fun i _ => rfl)
    rw [this]
    show (0 : Int) ≤ m0 * 0
    omega⟩
  | k + 1, hk => by
    obtain ⟨f, h1, h2⟩ := round_pick hT hB hq hr k (by omega)
    have ex : ∀ y : Int, qQ T n (cmb B (upZ f k y) (k + 1)) = qQ T n (cmb B f k) + 2 * y * qB T n (cmb B f k) (B k) + y * y * m0 := fun y => by
      have e : cmb B (upZ f k y) (k + 1) = fun i => 1 * cmb B f k i + y * B k i := by
        funext i
        show sumZ (fun t => upZ f k y t * B t i) k + upZ f k y k * B k i = _
        have e1 : sumZ (fun t => upZ f k y t * B t i) k = cmb B f k i := sumZ_congr k (fun t ht => by
          unfold upZ
          rw [if_neg (by omega)])
        have e2 : upZ f k y k = y := if_pos rfl
        rw [e1, e2, Int.one_mul]
      rw [e, qQ_add hT.1, hB k (by omega)]
      grind
    have hs : sumZ (fun i => r i * (q - r i)) (k + 1) = sumZ (fun i => r i * (q - r i)) k + r k * (q - r k) := rfl
    have hrk := hr k
    have up : ∀ y, (y = r k ∨ y = r k - q) → ∀ i, upZ f k y i = r i ∨ upZ f k y i = r i - q := fun y hy i => by
      unfold upZ
      split
      · next w => rw [w]; exact hy
      · exact h1 i
    by_cases w : qQ T n (cmb B (upZ f k (r k)) (k + 1)) ≤ qQ T n (cmb B f k) + m0 * (r k * (q - r k))
    · refine ⟨upZ f k (r k), up _ (Or.inl rfl), ?_⟩
      rw [hs, Int.mul_add]
      omega
    · refine ⟨upZ f k (r k - q), up _ (Or.inr rfl), ?_⟩
      rw [hs, Int.mul_add]
      have a := ex (r k)
      have b := ex (r k - q)
      generalize qQ T n (cmb B (upZ f k (r k)) (k + 1)) = A at *
      generalize qQ T n (cmb B (upZ f k (r k - q)) (k + 1)) = C at *
      generalize qQ T n (cmb B f k) = Z at *
      generalize qB T n (cmb B f k) (B k) = Y at *
      generalize r k = R at *
      have key : (q - R) * (A - Z - m0 * (R * (q - R))) + R * (C - Z - m0 * (R * (q - R))) = 0 := by
        rw [a, b]
        grind
      have p1 : 0 < (q - R) * (A - Z - m0 * (R * (q - R))) := Int.mul_pos (by omega) (by omega)
      by_cases v : C ≤ Z + m0 * (R * (q - R))
      · omega
      · have p2 : 0 ≤ R * (C - Z - m0 * (R * (q - R))) := Int.mul_nonneg (by omega) (by omega)
        omega
/-- coordinates of whole rows: all whole, or all half -/
theorem round_all {T B : Nat → Nat → Int} {n : Nat} {m0 q : Int} {a : Nat → Int} {x : Nat → Int} (hn : 1 ≤ n ∧ n ≤ 4) (hT : qPD T n) (hB : ∀ i, i < n → qQ T n (B i) = m0) (hm : 0 < m0) (hmin : ∀ y, (∃ i, i < n ∧ y i ≠ 0) → m0 ≤ qQ T n y) (hD : dtZ B n ≠ 0) (hq : 0 < q) (hx : ∀ j, j < n → cmb B a n j = q * x j) : (∀ i, i < n → a i % q = 0) ∨ (∀ i, i < n → 2 * (a i % q) = q) := by
  have hr : ∀ i, 0 ≤ a i % q ∧ a i % q < q := fun i => ⟨Int.emod_nonneg _ (by omega), Int.emod_lt_of_pos _ hq⟩
  obtain ⟨f, h1, h2⟩ := round_pick hT hB hq hr n (Nat.le_refl _)
  have hk : ∀ i, ∃ k, f i = a i - q * k := fun i => by
    have e := Int.mul_ediv_add_emod (a i) q
    rcases h1 i with w | w
    · exact ⟨a i / q, by omega⟩
    · exact ⟨a i / q + 1, by rw [Int.mul_add]; omega⟩
  have hk2 : ∃ k : Nat → Int, ∀ i, f i = a i - q * k i := ⟨fun i => Classical.choose (hk i), fun i => Classical.choose_spec (hk i)⟩
  obtain ⟨k, hk2⟩ := hk2
  have ec : ∀ j, j < n → cmb B f n j = q * (x j - cmb B k n j) := fun j hj => by
    rw [cmb_congr (c' := fun i => a i - q * k i) (fun i _ => hk2 i), cmb_sub, hx j hj]
    grind
  have eq : qQ T n (cmb B f n) = q * (q * qQ T n (fun j => x j - cmb B k n j)) := by
    have : qQ T n (cmb B f n) = qQ T n (fun j => q * (x j - cmb B k n j)) := qB_congr (fun _ _ _ _ => rfl) ec ec
    rw [this]
    unfold qQ
    rw [qB_mull, qB_mulr]
  rcases nz_or n (fun j => x j - cmb B k n j) with w | w
  · right
    have m := hmin _ w
    rw [eq] at h2
    have h3 : m0 * (q * q) ≤ m0 * sumZ (fun i => a i % q * (q - a i % q)) n := by
      have : q * (q * m0) ≤ q * (q * qQ T n (fun j => x j - cmb B k n j)) := Int.mul_le_mul_of_nonneg_left (Int.mul_le_mul_of_nonneg_left m (by omega)) (by omega)
      have e : m0 * (q * q) = q * (q * m0) := by grind
      omega
    have h4 : q * q ≤ sumZ (fun i => a i % q * (q - a i % q)) n := Int.le_of_mul_le_mul_left h3 hm
    have sq : ∀ i, 4 * (a i % q * (q - a i % q)) + (2 * (a i % q) - q) * (2 * (a i % q) - q) = q * q := fun i => by
      generalize a i % q = z
      grind
    have nn : ∀ z : Int, 0 ≤ z * z := fun z => by
      rcases Int.le_total 0 z with y | y
      · exact Int.mul_nonneg y y
      · have := Int.mul_nonneg (show 0 ≤ -z by omega) (show 0 ≤ -z by omega)
        rw [Int.neg_mul_neg] at this
        exact this
    have zz : ∀ z : Int, z * z ≤ 0 → z = 0 := fun z hz => by
      have := nn z
      rcases Int.mul_eq_zero.mp (show z * z = 0 by omega) with y | y <;> exact y
    have up : ∀ m, sumZ (fun i => a i % q * (q - a i % q)) m * 4 + sumZ (fun i => (2 * (a i % q) - q) * (2 * (a i % q) - q)) m = m * (q * q) := fun m => by
      induction m with
      | zero => show (0 : Int) * 4 + 0 = (0 : Nat) * (q * q); simp
      | succ m ih =>
        have := sq m
        have e1 : ∀ F : Nat → Int, sumZ F (m + 1) = sumZ F m + F m := fun _ => rfl
        rw [e1, e1, show ((m + 1 : Nat) : Int) = (m : Int) + 1 by omega, Int.add_mul (m : Int), Int.add_mul (sumZ _ m)]
        omega
    have un := up n
    have qq : 0 < q * q := Int.mul_pos hq hq
    have n4 : (n : Int) * (q * q) ≤ 4 * (q * q) := Int.mul_le_mul_of_nonneg_right (by omega) (by omega)
    have tot : sumZ (fun i => (2 * (a i % q) - q) * (2 * (a i % q) - q)) n ≤ 0 := by omega
    have each : ∀ (g : Nat → Int) (m : Nat), (∀ i, 0 ≤ g i) → sumZ g m ≤ 0 → ∀ i, i < m → g i ≤ 0 := fun g m hg => by
      induction m with
      | zero => intro _ i hi; omega
      | succ m ih =>
        intro hs i hi
        have a1 := sumZ_nonneg m (fun i _ => hg i)
        have a2 := hg m
        have hs' : sumZ g m + g m ≤ 0 := hs
        by_cases y : i = m
        · rw [y]; omega
        · exact ih (by omega) i (by omega)
    intro i hi
    have := zz _ (each _ n (fun i => nn _) tot i hi)
    omega
  · left
    intro i hi
    have z : ∀ j, j < n → cmb B f n j = 0 := fun j hj => by
      rw [ec j hj, w j hj, Int.mul_zero]
    have e := aC_cmb (B := B) (c := f) hn hi
    have e0 : aC B n (cmb B f n) i = 0 := by
      unfold aC lin
      exact sumZ_zero (fun j hj => by rw [z j hj, Int.mul_zero])
    rw [e0] at e
    have f0 : f i = 0 := by
      rcases Int.mul_eq_zero.mp e.symm with y | y
      · exact y
      · exact absurd y hD
    have := hr i
    rcases h1 i with y | y <;> omega
/-- rows that whole numbers keep free, a prime keeps free: few columns, small numbers -/
def mB (K : Nat) : Int := if K = 6 then 1 else if K = 5 then 2 else if K = 4 then 8 else if K = 3 then 128 else 32768
theorem mul_rng (M y z : Int) (hM : 0 ≤ M) (hy : -M ≤ y ∧ y ≤ M) (hz : -M ≤ z ∧ z ≤ M) : -(M * M) ≤ y * z ∧ y * z ≤ M * M := by
  have c1 := Int.mul_nonneg (show 0 ≤ M - y by omega) (show 0 ≤ M + z by omega)
  have c2 := Int.mul_nonneg (show 0 ≤ M + y by omega) (show 0 ≤ M - z by omega)
  have c3 := Int.mul_nonneg (show 0 ≤ M - y by omega) (show 0 ≤ M - z by omega)
  have c4 := Int.mul_nonneg (show 0 ≤ M + y by omega) (show 0 ≤ M + z by omega)
  have d1 : (M - y) * (M + z) = M * M + M * z - M * y - y * z := by grind
  have d2 : (M + y) * (M - z) = M * M - M * z + M * y - y * z := by grind
  have d3 : (M - y) * (M - z) = M * M - M * z - M * y + y * z := by grind
  have d4 : (M + y) * (M + z) = M * M + M * z + M * y + y * z := by grind
  omega
theorem mul_far {y z : Int} (hy : -32768 ≤ y ∧ y ≤ 32768) (hz : -32768 ≤ z ∧ z ≤ 32768) : y * z = 1073741824 ∨ y * z = -1073741824 ∨ (-1073709056 ≤ y * z ∧ y * z ≤ 1073709056) := by
  have far : ∀ y z : Int, (-32767 ≤ y ∧ y ≤ 32767) → (-32768 ≤ z ∧ z ≤ 32768) → (-1073709056 ≤ y * z ∧ y * z ≤ 1073709056) := fun y z hy hz => by
    have c1 := Int.mul_nonneg (show 0 ≤ 32767 - y by omega) (show 0 ≤ 32768 + z by omega)
    have c2 := Int.mul_nonneg (show 0 ≤ 32767 + y by omega) (show 0 ≤ 32768 - z by omega)
    have c3 := Int.mul_nonneg (show 0 ≤ 32767 - y by omega) (show 0 ≤ 32768 - z by omega)
    have c4 := Int.mul_nonneg (show 0 ≤ 32767 + y by omega) (show 0 ≤ 32768 + z by omega)
    have d1 : (32767 - y) * (32768 + z) = 1073709056 + 32767 * z - 32768 * y - y * z := by grind
    have d2 : (32767 + y) * (32768 - z) = 1073709056 - 32767 * z + 32768 * y - y * z := by grind
    have d3 : (32767 - y) * (32768 - z) = 1073709056 - 32767 * z - 32768 * y + y * z := by grind
    have d4 : (32767 + y) * (32768 + z) = 1073709056 + 32767 * z + 32768 * y + y * z := by grind
    omega
  by_cases w : -32767 ≤ y ∧ y ≤ 32767
  · exact Or.inr (Or.inr (far y z w hz))
  · by_cases v : -32767 ≤ z ∧ z ≤ 32767
    · have := far z y v hy
      rw [Int.mul_comm] at this
      exact Or.inr (Or.inr this)
    · have a : y = 32768 ∨ y = -32768 := by omega
      have b : z = 32768 ∨ z = -32768 := by omega
      rcases a with rfl | rfl <;> rcases b with rfl | rfl <;> omega
theorem elim {p : Int} (hp : isPr p) (hpv : p = 2147483647) : ∀ K, K ≤ 6 → ∀ U : (Nat → Int) → Prop, (∀ u, U u → ∀ j, j < K → (K = 1 ∧ (u j = 0 ∨ ¬ p ∣ u j)) ∨ (2 ≤ K ∧ -mB K ≤ u j ∧ u j ≤ mB K)) → (∀ g : Nat → Int, (∀ u, U u → lin K g u = 0) → ∀ j, j < K → g j = 0) → ∀ f : Nat → Int, (∀ u, U u → p ∣ lin K f u) → ∀ j, j < K → p ∣ f j
  | 0, _, _, _, _, _, _, j, hj => by omega
  | K + 1, hK, U, hb, hz, f, hf, j, hj => by
    have he : ∃ u, U u ∧ u K ≠ 0 := Classical.byContradiction (fun w => by
      have := hz (fun j => if j = K then 1 else 0) (fun u hu => by
        unfold lin
        refine sumZ_zero (fun t ht => ?_)
        dsimp only
        by_cases y : t = K
        · have : u K = 0 := Classical.byContradiction (fun q => w ⟨u, hu, q⟩)
          rw [y, this, Int.mul_zero]
        · rw [if_neg y, Int.zero_mul]) K (by omega)
      rw [if_pos rfl] at this
      omega)
    obtain ⟨u0, hu0, hne⟩ := he
    have pv : ¬ p ∣ u0 K := fun d => by
      rcases hb u0 hu0 K (by omega) with ⟨_, w⟩ | ⟨w1, w2, w3⟩
      · rcases w with w | w
        · exact hne w
        · exact w d
      · have big : mB (K + 1) < p := by
          rw [hpv]
          unfold mB
          repeat' split
          all_goals omega
        obtain ⟨k, hk⟩ := d
        have : k = 0 := by
          rw [hpv] at hk big
          omega
        rw [this, Int.mul_zero] at hk
        exact hne hk
    have split1 : ∀ (g u : Nat → Int), lin (K + 1) g u = lin K g u + g K * u K := fun g u => rfl
    have lc : ∀ (g u : Nat → Int), lin K g (fun j => u0 K * u j - u K * u0 j) = u0 K * lin K g u - u K * lin K g u0 := fun g u => by
      unfold lin
      have e : sumZ (fun j => g j * (u0 K * u j - u K * u0 j)) K = sumZ (fun j => u0 K * (g j * u j) + (- u K) * (g j * u0 j)) K := sumZ_congr K (fun j _ => by grind)
      rw [e, sumZ_add, sumZ_mul, sumZ_mul]
      grind
    have ih := elim hp hpv K (by omega) (fun v => ∃ u, U u ∧ v = fun j => u0 K * u j - u K * u0 j) (fun v hv t ht => by
      obtain ⟨u, hu, rfl⟩ := hv
      have b1 : 2 ≤ K + 1 ∧ -mB (K + 1) ≤ u0 K ∧ u0 K ≤ mB (K + 1) := by
        rcases hb u0 hu0 K (by omega) with w | w
        · omega
        · exact w
      have b2 : 2 ≤ K + 1 ∧ -mB (K + 1) ≤ u K ∧ u K ≤ mB (K + 1) := by
        rcases hb u hu K (by omega) with w | w
        · omega
        · exact w
      have b3 : 2 ≤ K + 1 ∧ -mB (K + 1) ≤ u t ∧ u t ≤ mB (K + 1) := by
        rcases hb u hu t (by omega) with w | w
        · omega
        · exact w
      have b4 : 2 ≤ K + 1 ∧ -mB (K + 1) ≤ u0 t ∧ u0 t ≤ mB (K + 1) := by
        rcases hb u0 hu0 t (by omega) with w | w
        · omega
        · exact w
      have prod := @mul_rng
      dsimp only
      by_cases k1 : K = 1
      · subst k1
        left
        refine ⟨rfl, ?_⟩
        obtain rfl : t = 0 := by omega
        have m2 : mB (1 + 1) = 32768 := rfl
        rw [m2] at b1 b2 b3 b4
        have f1 := mul_far b1.2 b3.2
        have f2 := mul_far b2.2 b4.2
        generalize u0 1 * u 0 = A at *
        generalize u 1 * u0 0 = C at *
        by_cases w0 : A - C = 0
        · exact Or.inl w0
        · refine Or.inr (fun ⟨k, hk⟩ => ?_)
          rw [hpv] at hk
          have : k = 0 ∨ k = 1 ∨ k = -1 := by omega
          rcases this with rfl | rfl | rfl <;> omega
      · right
        have hM : (0 : Int) ≤ mB (K + 1) := by
          unfold mB
          repeat' split
          all_goals omega
        have MM : 2 * (mB (K + 1) * mB (K + 1)) ≤ mB K := by
          have : K = 2 ∨ K = 3 ∨ K = 4 ∨ K = 5 := by omega
          rcases this with rfl | rfl | rfl | rfl <;> decide
        have q1 := prod _ _ _ hM b1.2 b3.2
        have q2 := prod _ _ _ hM b2.2 b4.2
        omega) (fun g hg t ht => by
      have := hz (fun j => if j = K then - lin K g u0 else u0 K * g j) (fun u hu => by
        rw [split1]
        have e : lin K (fun j => if j = K then - lin K g u0 else u0 K * g j) u = lin K (fun j => u0 K * g j) u := by
          unfold lin
          exact sumZ_congr K (fun j hj => by dsimp only; rw [if_neg (by omega)])
        have h1 := hg _ ⟨u, hu, rfl⟩
        rw [lc] at h1
        rw [e, lin_mul, if_pos rfl]
        grind) t (by omega)
      rw [if_neg (by omega)] at this
      rcases Int.mul_eq_zero.mp this with w | w
      · exact absurd w hne
      · exact w) f (fun v hv => by
      obtain ⟨u, hu, rfl⟩ := hv
      rw [lc]
      have a1 := hf u hu
      have a2 := hf u0 hu0
      rw [split1] at a1 a2
      have e : u0 K * lin K f u - u K * lin K f u0 = u0 K * (lin K f u + f K * u K) - u K * (lin K f u0 + f K * u0 K) := by grind
      rw [e]
      exact Int.dvd_sub (Int.dvd_mul_of_dvd_right a1) (Int.dvd_mul_of_dvd_right a2))
    by_cases w : j < K
    · exact ih j w
    · obtain rfl : j = K := by omega
      have a2 := hf u0 hu0
      rw [split1] at a2
      have d : p ∣ lin j f u0 := by
        unfold lin
        exact sumZ_dvd _ (fun t ht => Int.dvd_mul_of_dvd_left (ih t ht))
      have d2 : p ∣ f j * u0 j := by
        have e : f j * u0 j = (lin j f u0 + f j * u0 j) - lin j f u0 := by omega
        rw [e]
        exact Int.dvd_sub a2 d
      rcases hp.2 _ _ d2 with y | y
      · exact y
      · exact absurd y pv
