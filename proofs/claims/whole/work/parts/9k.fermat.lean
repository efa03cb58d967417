/-! Powers by a prime. -/
def prodZ (F : Nat → Int) : Nat → Int
  | 0 => 1
  | n + 1 => prodZ F n * F n
theorem prodZ_congr {F G : Nat → Int} : ∀ n, (∀ i, i < n → F i = G i) → prodZ F n = prodZ G n
  | 0, _ => rfl
  | n + 1, h => by
    unfold prodZ
    rw [prodZ_congr n (fun i hi => h i (by omega)), h n (by omega)]
theorem prodZ_upd {h : Nat → Int} {i0 : Nat} {y : Int} : ∀ n, i0 < n → prodZ (upZ h i0 y) n * h i0 = prodZ h n * y
  | 0, hi => by omega
  | n + 1, hi => by
    unfold prodZ
    by_cases e : i0 = n
    · subst e
      have : prodZ (upZ h i0 y) i0 = prodZ h i0 := prodZ_congr i0 (fun i hi => if_neg (by omega))
      have e2 : upZ h i0 y i0 = y := if_pos rfl
      rw [this, e2]
      grind
    · have ih := prodZ_upd (h := h) (y := y) n (show i0 < n by omega)
      have e2 : upZ h i0 y n = h n := if_neg (by omega)
      rw [e2]
      have : prodZ (upZ h i0 y) n * h n * h i0 = (prodZ (upZ h i0 y) n * h i0) * h n := by grind
      rw [this, ih]
      grind
theorem prod_perm {F : Nat → Int} : ∀ (n : Nat) (g : Nat → Nat), (∀ i, i < n → g i < n) → (∀ i j, i < j → j < n → g i ≠ g j) → prodZ (fun i => F (g i)) n = prodZ F n
  | 0, _, _, _ => rfl
  | n + 1, g, h1, h2 => by
    obtain ⟨i0, hi0, e0⟩ := hit h1 h2 n (by omega)
    by_cases e : i0 = n
    · subst e
      unfold prodZ
      rw [prod_perm i0 g (fun i hi => by
        have a := h1 i (by omega)
        have b := h2 i i0 hi (by omega)
        omega) (fun i j hij hj => h2 i j hij (by omega)), e0]
    · have ih := prod_perm (F := F) n (fun i => if i = i0 then g n else g i) (fun i hi => by
        by_cases y : i = i0
        · rw [if_pos y]
          have a := h1 n (by omega)
          have b := h2 i0 n (by omega) (by omega)
          omega
        · rw [if_neg y]
          have a := h1 i (by omega)
          rcases Nat.lt_or_gt_of_ne y with w | w
          · have b := h2 i i0 w hi0
            omega
          · have b := h2 i0 i w (by omega)
            omega) (fun i j hij hj => by
        by_cases y1 : i = i0
        · rw [if_pos y1, if_neg (by omega)]
          exact fun q => h2 j n (by omega) (by omega) q.symm
        · rw [if_neg y1]
          by_cases y2 : j = i0
          · rw [if_pos y2]; exact h2 i n (by omega) (by omega)
          · rw [if_neg y2]; exact h2 i j hij (by omega))
      have eg : prodZ (fun i => F ((fun i => if i = i0 then g n else g i) i)) n = prodZ (upZ (fun i => F (g i)) i0 (F (g n))) n := prodZ_congr n (fun i hi => by
        unfold upZ
        dsimp only
        by_cases y : i = i0
        · rw [if_pos y, if_pos y]
        · rw [if_neg y, if_neg y])
      have u := prodZ_upd (h := fun i => F (g i)) (y := F (g n)) n (show i0 < n by omega)
      rw [eg] at ih
      rw [ih] at u
      rw [e0] at u
      exact u.symm
theorem prodZ_mul {a : Int} {F : Nat → Int} : ∀ n, prodZ (fun i => a * F i) n = a ^ n * prodZ F n
  | 0 => by
    show (1 : Int) = a ^ 0 * 1
    rw [Int.pow_zero]
    rfl
  | n + 1 => by
    unfold prodZ
    rw [prodZ_mul n, Int.pow_succ]
    grind
theorem prodZ_cong {p : Int} {F G : Nat → Int} : ∀ n, (∀ i, i < n → p ∣ F i - G i) → p ∣ prodZ F n - prodZ G n
  | 0, _ => ⟨0, by show (1 : Int) - 1 = p * 0; rw [Int.mul_zero]; rfl⟩
  | n + 1, h => by
    unfold prodZ
    have e : prodZ F n * F n - prodZ G n * G n = (prodZ F n - prodZ G n) * F n + prodZ G n * (F n - G n) := by grind
    rw [e]
    exact Int.dvd_add (Int.dvd_mul_of_dvd_left (prodZ_cong n (fun i hi => h i (by omega)))) (Int.dvd_mul_of_dvd_right (h n (by omega)))
theorem prodZ_np {p : Int} (hp : isPr p) {F : Nat → Int} : ∀ n, (∀ i, i < n → ¬ p ∣ F i) → ¬ p ∣ prodZ F n
  | 0, _, q => by
    have : p ∣ 1 := q
    have := Int.le_of_dvd (by omega) this
    have := hp.1
    omega
  | n + 1, h, q => by
    unfold prodZ at q
    rcases hp.2 _ _ q with w | w
    · exact prodZ_np hp n (fun i hi => h i (by omega)) w
    · exact h n (by omega) w
theorem fermat {p : Int} (hp : isPr p) {a : Int} (ha : ¬ p ∣ a) : p ∣ a ^ (p.toNat - 1) - 1 := by
  have p1 := hp.1
  have rg : ∀ i : Nat, i < p.toNat - 1 → 0 < (a * ((i : Int) + 1)) % p ∧ (a * ((i : Int) + 1)) % p < p := fun i hi => by
    have h1 := Int.emod_nonneg (a * ((i : Int) + 1)) (show p ≠ 0 by omega)
    have h2 := Int.emod_lt_of_pos (a * ((i : Int) + 1)) (show 0 < p by omega)
    refine ⟨?_, h2⟩
    refine Classical.byContradiction (fun w => ?_)
    have e : (a * ((i : Int) + 1)) % p = 0 := by omega
    have d := Int.dvd_of_emod_eq_zero e
    rcases hp.2 _ _ d with q | q
    · exact ha q
    · have := Int.le_of_dvd (by omega) q
      omega
  have perm := prod_perm (F := fun i => (i : Int) + 1) (p.toNat - 1) (fun i => ((a * ((i : Int) + 1)) % p - 1).toNat) (fun i hi => by
    have := rg i hi
    omega) (fun i j hij hj q => by
    have a1 := rg i (by omega)
    have a2 := rg j hj
    have e : (a * ((i : Int) + 1)) % p = (a * ((j : Int) + 1)) % p := by omega
    have d1 := emod_dvd (a * ((i : Int) + 1)) p
    have d2 := emod_dvd (a * ((j : Int) + 1)) p
    rw [e] at d1
    have d3 := Int.dvd_sub d2 d1
    have e3 : a * ((j : Int) + 1) - (a * ((j : Int) + 1)) % p - (a * ((i : Int) + 1) - (a * ((j : Int) + 1)) % p) = a * ((j : Int) - (i : Int)) := by grind
    rw [e3] at d3
    rcases hp.2 _ _ d3 with w | w
    · exact ha w
    · have := Int.le_of_dvd (by omega) w
      omega)
  have c1 := prodZ_cong (p := p) (F := fun i : Nat => a * ((i : Int) + 1)) (G := fun i : Nat => ((((a * ((i : Int) + 1)) % p - 1).toNat : Nat) : Int) + 1) (p.toNat - 1) (fun i hi => by
    have := rg i hi
    have e : ((((a * ((i : Int) + 1)) % p - 1).toNat : Nat) : Int) + 1 = (a * ((i : Int) + 1)) % p := by omega
    rw [e]
    exact emod_dvd _ _)
  rw [prodZ_mul] at c1
  have perm' : prodZ (fun i : Nat => ((((a * ((i : Int) + 1)) % p - 1).toNat : Nat) : Int) + 1) (p.toNat - 1) = prodZ (fun i : Nat => (i : Int) + 1) (p.toNat - 1) := perm
  rw [perm'] at c1
  have e : a ^ (p.toNat - 1) * prodZ (fun i : Nat => (i : Int) + 1) (p.toNat - 1) - prodZ (fun i : Nat => (i : Int) + 1) (p.toNat - 1) = (a ^ (p.toNat - 1) - 1) * prodZ (fun i : Nat => (i : Int) + 1) (p.toNat - 1) := by grind
  rw [e] at c1
  refine (hp.2 _ _ c1).resolve_right (prodZ_np hp _ (fun i hi q => ?_))
  have := Int.le_of_dvd (by omega) q
  omega
/-- the reference's inverse -/
theorem pow_half (s : Int) (e : Nat) : s ^ e = (s * s) ^ (e / 2) * s ^ (e % 2) := by
  have h : ∀ k : Nat, (s * s) ^ k = s ^ (2 * k) := fun k => by
    induction k with
    | zero => rw [Int.pow_zero, Nat.mul_zero, Int.pow_zero]
    | succ k ih =>
      rw [Int.pow_succ, ih, show 2 * (k + 1) = 2 * k + 1 + 1 by omega, Int.pow_succ, Int.pow_succ]
      grind
  rw [h, ← Int.pow_add]
  congr 1
  omega
theorem pow_cong {p a b : Int} (h : p ∣ a - b) : ∀ n : Nat, p ∣ a ^ n - b ^ n
  | 0 => ⟨0, by rw [Int.pow_zero, Int.pow_zero, Int.mul_zero]; rfl⟩
  | n + 1 => by
    rw [Int.pow_succ, Int.pow_succ]
    have e : a ^ n * a - b ^ n * b = (a ^ n - b ^ n) * a + b ^ n * (a - b) := by grind
    rw [e]
    exact Int.dvd_add (Int.dvd_mul_of_dvd_left (pow_cong h n)) (Int.dvd_mul_of_dvd_right h)
theorem lrm_int {x y : Int64} (hx : 0 ≤ x.toInt) (hy : 0 < y.toInt) : (lrm x y).toInt = x.toInt % y.toInt := i64_rem hx hy
theorem ivF_spec {p : Int64} (hp : 1 < p.toInt) (hp2 : p.toInt < 2 ^ 31) : ∀ (n : Nat) (e r s : Int64), 0 ≤ e.toInt → e.toInt < 2 ^ n → (0 ≤ r.toInt ∧ r.toInt < p.toInt) → (0 ≤ s.toInt ∧ s.toInt < p.toInt) → (0 ≤ (ivF p n e r s).toInt ∧ (ivF p n e r s).toInt < p.toInt) ∧ p.toInt ∣ (ivF p n e r s).toInt - r.toInt * s.toInt ^ e.toInt.toNat
  | 0, e, r, s, h0, h1, hr, hs => by
    have : e.toInt = 0 := by omega
    refine ⟨hr, ?_⟩
    rw [this]
    refine ⟨0, ?_⟩
    show r.toInt - r.toInt * s.toInt ^ 0 = _
    rw [Int.pow_zero, Int.mul_one, Int.mul_zero]
    omega
  | n + 1, e, r, s, h0, h1, hr, hs => by
    have z0 : (0 : Int64).toInt = 0 := by decide
    have one : (1 : Int64).toInt = 1 := by decide
    unfold ivF
    by_cases z : e ≤ 0
    · rw [if_pos z]
      rw [i64_le, z0] at z
      have : e.toInt = 0 := by omega
      refine ⟨hr, ?_⟩
      rw [this]
      refine ⟨0, ?_⟩
      show r.toInt - r.toInt * s.toInt ^ 0 = _
      rw [Int.pow_zero, Int.mul_one, Int.mul_zero]
      omega
    · rw [if_neg z]
      have eh := i64_shr1 e
      have ea := i64_and1 h0
      have bs := (show bd s.toInt (2 ^ 31) by unfold bd; omega).mul (show bd s.toInt (2 ^ 31) by unfold bd; omega)
      have br := (show bd r.toInt (2 ^ 31) by unfold bd; omega).mul (show bd s.toInt (2 ^ 31) by unfold bd; omega)
      have ns : 0 ≤ s.toInt * s.toInt := Int.mul_nonneg hs.1 hs.1
      have nr : 0 ≤ r.toInt * s.toInt := Int.mul_nonneg hr.1 hs.1
      unfold bd at bs br
      have ms : (s * s).toInt = s.toInt * s.toInt := i64_mul (by omega) (by omega)
      have mr : (r * s).toInt = r.toInt * s.toInt := i64_mul (by omega) (by omega)
      have ls : (lrm (s * s) p).toInt = (s.toInt * s.toInt) % p.toInt := by rw [lrm_int (by rw [ms]; exact ns) (by omega), ms]
      have lr : (lrm (r * s) p).toInt = (r.toInt * s.toInt) % p.toInt := by rw [lrm_int (by rw [mr]; exact nr) (by omega), mr]
      have rs : 0 ≤ (lrm (s * s) p).toInt ∧ (lrm (s * s) p).toInt < p.toInt := by rw [ls]; exact ⟨Int.emod_nonneg _ (by omega), Int.emod_lt_of_pos _ (by omega)⟩
      have key : ∀ r' : Int64, (0 ≤ r'.toInt ∧ r'.toInt < p.toInt) → p.toInt ∣ r'.toInt - r.toInt * s.toInt ^ (e.toInt.toNat % 2) → (0 ≤ (ivF p n (e >>> ((1 : Int32).toInt64 &&& 63)) r' (lrm (s * s) p)).toInt ∧ (ivF p n (e >>> ((1 : Int32).toInt64 &&& 63)) r' (lrm (s * s) p)).toInt < p.toInt) ∧ p.toInt ∣ (ivF p n (e >>> ((1 : Int32).toInt64 &&& 63)) r' (lrm (s * s) p)).toInt - r.toInt * s.toInt ^ e.toInt.toNat := fun r' hr' hd => by
        have hpw : (2 : Int) ^ (n + 1) = 2 * 2 ^ n := by rw [Int.pow_succ]; omega
        obtain ⟨g1, g2⟩ := ivF_spec hp hp2 n (e >>> ((1 : Int32).toInt64 &&& 63)) r' (lrm (s * s) p) (by rw [eh]; omega) (by rw [eh]; omega) hr' rs
        refine ⟨g1, ?_⟩
        have d1 : p.toInt ∣ (lrm (s * s) p).toInt ^ (e.toInt.toNat / 2) - (s.toInt * s.toInt) ^ (e.toInt.toNat / 2) := pow_cong (by
          rw [ls]
          have := emod_dvd (s.toInt * s.toInt) p.toInt
          have e2 : (s.toInt * s.toInt) % p.toInt - s.toInt * s.toInt = - (s.toInt * s.toInt - (s.toInt * s.toInt) % p.toInt) := by omega
          rw [e2]
          exact Int.dvd_neg.mpr this) _
        have et : (e >>> ((1 : Int32).toInt64 &&& 63)).toInt.toNat = e.toInt.toNat / 2 := by rw [eh]; omega
        rw [et] at g2
        generalize (ivF p n (e >>> ((1 : Int32).toInt64 &&& 63)) r' (lrm (s * s) p)).toInt = V at *
        rw [pow_half s.toInt e.toInt.toNat]
        have e3 : V - r.toInt * ((s.toInt * s.toInt) ^ (e.toInt.toNat / 2) * s.toInt ^ (e.toInt.toNat % 2)) = (V - r'.toInt * (lrm (s * s) p).toInt ^ (e.toInt.toNat / 2)) + r'.toInt * ((lrm (s * s) p).toInt ^ (e.toInt.toNat / 2) - (s.toInt * s.toInt) ^ (e.toInt.toNat / 2)) + (r'.toInt - r.toInt * s.toInt ^ (e.toInt.toNat % 2)) * (s.toInt * s.toInt) ^ (e.toInt.toNat / 2) := by grind
        rw [e3]
        exact Int.dvd_add (Int.dvd_add g2 (Int.dvd_mul_of_dvd_right d1)) (Int.dvd_mul_of_dvd_left hd)
      by_cases y : e &&& 1 = 1
      · rw [if_pos y]
        rw [i64_eq, ea, one] at y
        refine key (lrm (r * s) p) (by rw [lr]; exact ⟨Int.emod_nonneg _ (by omega), Int.emod_lt_of_pos _ (by omega)⟩) ?_
        rw [show e.toInt.toNat % 2 = 1 by omega, lr]
        have := emod_dvd (r.toInt * s.toInt) p.toInt
        have e2 : (r.toInt * s.toInt) % p.toInt - r.toInt * s.toInt ^ 1 = - (r.toInt * s.toInt - (r.toInt * s.toInt) % p.toInt) := by
          rw [show (1 : Nat) = 0 + 1 from rfl, Int.pow_succ, Int.pow_zero, Int.one_mul]
          omega
        rw [e2]
        exact Int.dvd_neg.mpr this
      · rw [if_neg y]
        rw [i64_eq, ea, one] at y
        refine key r hr ?_
        rw [show e.toInt.toNat % 2 = 0 by omega, Int.pow_zero, Int.mul_one]
        exact ⟨0, by rw [Int.mul_zero]; omega⟩
theorem inv_spec {p : Int64} (hp : isPr p.toInt) (hp3 : 3 < p.toInt) (hp2 : p.toInt < 2 ^ 31) {x : Int64} (hx : 0 < x.toInt ∧ x.toInt < p.toInt) : (0 ≤ (ivF p 63 (p - 2) 1 x).toInt ∧ (ivF p 63 (p - 2) 1 x).toInt < p.toInt) ∧ p.toInt ∣ x.toInt * (ivF p 63 (p - 2) 1 x).toInt - 1 := by
  have two : (2 : Int64).toInt = 2 := by decide
  have one : (1 : Int64).toInt = 1 := by decide
  have e2 : (p - 2).toInt = p.toInt - 2 := by rw [i64_sub (by rw [two]; omega) (by rw [two]; omega), two]
  obtain ⟨g1, g2⟩ := ivF_spec (by omega) hp2 63 (p - 2) 1 x (by rw [e2]; omega) (by rw [e2]; omega) (by rw [one]; omega) (by omega)
  refine ⟨g1, ?_⟩
  rw [one, Int.one_mul, e2] at g2
  have nx : ¬ p.toInt ∣ x.toInt := fun q => by
    have := Int.le_of_dvd hx.1 q
    omega
  have f := fermat hp nx
  generalize (ivF p 63 (p - 2) 1 x).toInt = V at *
  have e3 : x.toInt * V - 1 = x.toInt * (V - x.toInt ^ (p.toInt - 2).toNat) + (x.toInt ^ (p.toInt.toNat - 1) - 1) := by
    rw [show p.toInt.toNat - 1 = (p.toInt - 2).toNat + 1 by omega, Int.pow_succ]
    grind
  rw [e3]
  exact Int.dvd_add (Int.dvd_mul_of_dvd_right g2) f
