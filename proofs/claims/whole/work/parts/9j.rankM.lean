/-! The bench's count of tables by a prime, by meaning. -/
theorem jFm_int {x y : Int64} (hy : 0 < y.toInt) : (jFm x y).toInt = x.toInt % y.toInt := by
  have z0 : (0 : Int64).toInt = 0 := by decide
  have hx := i64_rng x
  have hyr := i64_rng y
  unfold jFm
  by_cases hs : 0 ≤ x.toInt
  · rw [if_pos ((i64_xor (by omega)).mpr hs)]
    exact i64_rem hs hy
  · rw [if_neg (fun w => hs ((i64_xor (by omega)).mp w))]
    have hq : (x / y).toInt = - ((- x.toInt) / y.toInt) := by
      rw [Int64.toInt_div]
      have e : x.toInt.tdiv y.toInt = - ((- x.toInt) / y.toInt) := by
        have : x.toInt.tdiv y.toInt = - ((- x.toInt).tdiv y.toInt) := by rw [Int.neg_tdiv]; omega
        rw [this, Int.tdiv_eq_ediv_of_nonneg (by omega)]
      rw [e]
      have h1 := Int.ediv_le_self y.toInt (show 0 ≤ - x.toInt by omega)
      have h2 : 0 ≤ (- x.toInt) / y.toInt := Int.ediv_nonneg (by omega) (by omega)
      apply Int.bmod_eq_of_le <;> omega
    have hm := Int.emod_add_mul_ediv (- x.toInt) y.toInt
    have hm0 := Int.emod_nonneg (- x.toInt) (show y.toInt ≠ 0 by omega)
    have hm1 := Int.emod_lt_of_pos (- x.toInt) hy
    have h2 : 0 ≤ (- x.toInt) / y.toInt := Int.ediv_nonneg (by omega) (by omega)
    have h3 : 0 ≤ y.toInt * ((- x.toInt) / y.toInt) := Int.mul_nonneg (by omega) h2
    have hp : (x / y * y).toInt = - (y.toInt * ((- x.toInt) / y.toInt)) := by
      have e : (x / y).toInt * y.toInt = - (y.toInt * ((- x.toInt) / y.toInt)) := by rw [hq, Int.neg_mul, Int.mul_comm]
      rw [i64_mul (by rw [e]; omega) (by rw [e]; omega), e]
    have hd : (x - x / y * y).toInt = - ((- x.toInt) % y.toInt) := by
      rw [i64_sub (by rw [hp]; omega) (by rw [hp]; omega), hp]
      omega
    by_cases hz : x - x / y * y = 0
    · rw [if_pos hz, hz, z0]
      rw [i64_eq, hd, z0] at hz
      exact ((Int.ediv_emod_unique (a := x.toInt) (q := - ((- x.toInt) / y.toInt)) (r := 0) hy).mpr ⟨by rw [Int.mul_neg]; omega, by omega, hy⟩).2.symm
    · rw [if_neg hz]
      rw [i64_eq, hd, z0] at hz
      rw [i64_add (by rw [hd]; omega) (by rw [hd]; omega), hd]
      have e := ((Int.ediv_emod_unique (a := x.toInt) (q := - ((- x.toInt) / y.toInt) - 1) (r := y.toInt - (- x.toInt) % y.toInt) hy).mpr ⟨by rw [Int.mul_sub, Int.mul_neg, Int.mul_one]; omega, by omega, by omega⟩).2
      omega
theorem emod_dvd (a p : Int) : p ∣ a - a % p := ⟨a / p, by have := Int.emod_add_mul_ediv a p; omega⟩
theorem lin_emod {p : Int} {K : Nat} {f v w : Nat → Int} (h : ∀ j, j < K → p ∣ v j - w j) : p ∣ lin K f v ↔ p ∣ lin K f w := by
  have e : p ∣ lin K f v - lin K f w := by
    have : lin K f v - lin K f w = sumZ (fun j => f j * (v j - w j)) K := by
      unfold lin
      have a := sumZ_add (fun j => f j * (v j - w j)) (fun j => f j * w j) K
      have b : sumZ (fun j => f j * (v j - w j) + f j * w j) K = sumZ (fun j => f j * v j) K := sumZ_congr K (fun j _ => by grind)
      omega
    rw [this]
    exact sumZ_dvd K (fun j hj => Int.dvd_mul_of_dvd_right (h j hj))
  refine ⟨fun q => ?_, fun q => ?_⟩
  · have : lin K f w = lin K f v - (lin K f v - lin K f w) := by omega
    rw [this]
    exact Int.dvd_sub q e
  · have : lin K f v = lin K f w + (lin K f v - lin K f w) := by omega
    rw [this]
    exact Int.dvd_add q e
theorem lin_lc {K : Nat} {f v w : Nat → Int} {a b : Int} : lin K f (fun j => v j * a - w j * b) = lin K f v * a - lin K f w * b := by
  show sumZ (fun j => f j * (v j * a - w j * b)) K = sumZ (fun j => f j * v j) K * a - sumZ (fun j => f j * w j) K * b
  have e1 : sumZ (fun j => f j * v j * a) K = sumZ (fun j => f j * v j) K * a := sumZ_mulr a (fun j => f j * v j) K
  have e2 : sumZ (fun j => f j * w j * b) K = sumZ (fun j => f j * w j) K * b := sumZ_mulr b (fun j => f j * w j) K
  have e3 : sumZ (fun j => f j * (v j * a - w j * b) + f j * w j * b) K = sumZ (fun j => f j * (v j * a - w j * b)) K + sumZ (fun j => f j * w j * b) K := sumZ_add (fun j => f j * (v j * a - w j * b)) (fun j => f j * w j * b) K
  have e4 : sumZ (fun j => f j * (v j * a - w j * b) + f j * w j * b) K = sumZ (fun j => f j * v j * a) K := sumZ_congr K (fun j _ => by grind)
  rw [← e1, ← e2]
  omega
/-- the bench's tables kept so far -/
def rkS (M : mv_M) (r K kept : Nat) (lead : Nat → Nat) (Tb : Nat → Nat → Int) : Prop := (M.1 r 0 = nI K ∧ M.1 r 1 = nI kept) ∧ (∀ t, t < kept → M.1 (r + 3) t = nI (lead t)) ∧ ∀ t j, t < kept → j < K → (M.2.1 (r + 2) (t * 10 + j)).toInt = Tb t j
def rkE (p : Int) (K kept : Nat) (lead : Nat → Nat) (Tb : Nat → Nat → Int) : Prop := (∀ t, t < kept → lead t < K ∧ Tb t (lead t) ≠ 0) ∧ (∀ t j, t < kept → j < K → 0 ≤ Tb t j ∧ Tb t j < p) ∧ ∀ s t, s < t → t < kept → Tb t (lead s) = 0
theorem raS_spec {p : Int} (hpe : p = 2147483647) {M : mv_M} {r K kept t : Nat} {lead : Nat → Nat} {Tb : Nat → Nat → Int} {w : Nat → Int} (hK : K ≤ 10) (hk : kept ≤ K) (hs : rkS M r K kept lead Tb) (he : rkE p K kept lead Tb) (ht : t < kept) (hw : ∀ j, j < K → (M.2.1 (r + 1) j).toInt = w j ∧ 0 ≤ w j ∧ w j < p) :
    ∀ j, j < K → ((raS M r t (lead t)).2.1 (r + 1) j).toInt = (if w (lead t) = 0 then w j else (w j * Tb t (lead t) - Tb t j * w (lead t)) % p) := fun j hj => by
  obtain ⟨⟨k0, k1⟩, k2, k3⟩ := hs
  obtain ⟨e1, e2, e3⟩ := he
  have z0 : (0 : Int64).toInt = 0 := by decide
  have zp : (2147483647 : Int64).toInt = 2147483647 := by decide
  have hl := (e1 t ht).1
  unfold raS
  by_cases z : M.2.1 (r + 1) (lead t) = 0
  · rw [if_pos z]
    rw [i64_eq, (hw _ hl).1, z0] at z
    rw [if_pos z]
    exact (hw j hj).1
  · rw [if_neg z]
    rw [i64_eq, (hw _ hl).1, z0] at z
    rw [if_neg z, fillA_o]
    unfold soF
    have ek : (M.1 r 0).toNatClampNeg = K := by rw [k0]; exact nI_clamp (by omega)
    rw [ek, if_pos hj]
    have a1 := hw j hj
    have a2 := hw _ hl
    have a3 := e2 t j ht hj
    have a4 := e2 t _ ht hl
    have b1 := (show bd (w j) 2147483647 by unfold bd; omega).mul (show bd (Tb t (lead t)) 2147483647 by unfold bd; omega)
    have b2 := (show bd (Tb t j) 2147483647 by unfold bd; omega).mul (show bd (w (lead t)) 2147483647 by unfold bd; omega)
    unfold bd at b1 b2
    have m1 : (M.2.1 (r + 1) j * M.2.1 (r + 2) (t * 10 + lead t)).toInt = w j * Tb t (lead t) := by rw [i64_mul (by rw [a1.1, k3 t _ ht hl]; omega) (by rw [a1.1, k3 t _ ht hl]; omega), a1.1, k3 t _ ht hl]
    have m2 : (M.2.1 (r + 2) (t * 10 + j) * M.2.1 (r + 1) (lead t)).toInt = Tb t j * w (lead t) := by rw [i64_mul (by rw [a2.1, k3 t j ht hj]; omega) (by rw [a2.1, k3 t j ht hj]; omega), a2.1, k3 t j ht hj]
    rw [jFm_int (by rw [zp]; omega), i64_sub (by rw [m1, m2]; omega) (by rw [m1, m2]; omega), m1, m2, zp, hpe]
theorem kfS_spec {p : Int} (hpe : p = 2147483647) (hp : isPr p) {M : mv_M} {r K kept : Nat} {lead : Nat → Nat} {Tb : Nat → Nat → Int} {w0 : Nat → Int} (hK : K ≤ 10) (hk : kept ≤ K) (hs : rkS M r K kept lead Tb) (he : rkE p K kept lead Tb) (hw : ∀ j, j < K → (M.2.1 (r + 1) j).toInt = w0 j ∧ 0 ≤ w0 j ∧ w0 j < p) :
    ∀ t, t ≤ kept → ∃ w : Nat → Int, (∀ j, j < K → ((kfS r t M).2.1 (r + 1) j).toInt = w j ∧ 0 ≤ w j ∧ w j < p) ∧ (∀ s, s < t → w (lead s) = 0) ∧ ∀ f, (∀ s, s < kept → p ∣ lin K f (Tb s)) → (p ∣ lin K f w ↔ p ∣ lin K f w0)
  | 0, _ => ⟨w0, hw, fun s hs => by omega, fun f _ => Iff.rfl⟩
  | t + 1, ht => by
    obtain ⟨w, a1, a2, a3⟩ := kfS_spec hpe hp hK hk hs he hw t (by omega)
    have zR := kfS_R r M t
    have hs' : rkS (kfS r t M) r K kept lead Tb := by
      obtain ⟨⟨k0, k1⟩, k2, k3⟩ := hs
      refine ⟨by rw [zR.1]; exact ⟨k0, k1⟩, by rw [zR.1]; exact k2, fun s j h1 h2 => ?_⟩
      rw [zR.2.2 _ (by omega)]
      exact k3 s j h1 h2
    have el : (M.1 (r + 3) t).toNatClampNeg = lead t := by
      rw [hs.2.1 t (by omega)]
      exact nI_clamp (by have := (he.1 t (by omega)).1; omega)
    have es : kfS r (t + 1) M = raS (kfS r t M) r t (lead t) := by
      show raS (kfS r t M) r t (M.1 (r + 3) t).toNatClampNeg = _
      rw [el]
    have sp := raS_spec hpe hK hk hs' he (t := t) (by omega) a1
    rw [es]
    by_cases z : w (lead t) = 0
    · refine ⟨w, fun j hj => ⟨by rw [sp j hj, if_pos z], (a1 j hj).2⟩, fun s hs => ?_, a3⟩
      by_cases y : s = t
      · rw [y]; exact z
      · exact a2 s (by omega)
    · refine ⟨fun j => (w j * Tb t (lead t) - Tb t j * w (lead t)) % p, fun j hj => ⟨by rw [sp j hj, if_neg z], Int.emod_nonneg _ (by omega), Int.emod_lt_of_pos _ (by omega)⟩, fun s hs => ?_, fun f hf => ?_⟩
      · dsimp only
        by_cases y : s = t
        · rw [y, Int.mul_comm]
          have : Tb t (lead t) * w (lead t) - Tb t (lead t) * w (lead t) = 0 := by omega
          rw [this]
          rfl
        · rw [a2 s (by omega), he.2.2 s t (by omega) (by omega), Int.zero_mul, Int.zero_mul]
          rfl
      · have q1 := lin_emod (p := p) (K := K) (f := f) (v := fun j => w j * Tb t (lead t) - Tb t j * w (lead t)) (w := fun j => (w j * Tb t (lead t) - Tb t j * w (lead t)) % p) (fun j _ => emod_dvd _ _)
        rw [← q1, lin_lc]
        have hT := hf t (by omega)
        have nt : ¬ p ∣ Tb t (lead t) := fun q => by
          have b := (he.1 t (by omega))
          have c := he.2.1 t _ (by omega) b.1
          have := Int.le_of_dvd (by omega) q
          omega
        rw [← a3 f hf]
        refine ⟨fun q => ?_, fun q => Int.dvd_sub (Int.dvd_mul_of_dvd_left q) (Int.dvd_mul_of_dvd_left hT)⟩
        have : lin K f w * Tb t (lead t) = (lin K f w * Tb t (lead t) - lin K f (Tb t) * w (lead t)) + lin K f (Tb t) * w (lead t) := by omega
        have h2 : p ∣ lin K f w * Tb t (lead t) := by
          rw [this]
          exact Int.dvd_add q (Int.dvd_mul_of_dvd_left hT)
        exact (hp.2 _ _ h2).resolve_right nt
theorem ffF_nz (f : Nat → Int64) : ∀ n, ffF f n < n → ¬ f (ffF f n) = 0
  | 0, h => by omega
  | n + 1, h => by
    by_cases y : ffF f n < n
    · have e : ffF f (n + 1) = ffF f n := by
        show (if ffF f n < n then ffF f n else _) = _
        rw [if_pos y]
      rw [e]
      exact ffF_nz f n y
    · by_cases y2 : f n = 0
      · have e : ffF f (n + 1) = n + 1 := by
          show (if ffF f n < n then ffF f n else if f n = 0 then n + 1 else n) = _
          rw [if_neg y, if_pos y2]
        omega
      · have e : ffF f (n + 1) = n := by
          show (if ffF f n < n then ffF f n else if f n = 0 then n + 1 else n) = _
          rw [if_neg y, if_neg y2]
        rw [e]
        exact y2
/-- one more table: kept if it is new -/
theorem raK_spec {p : Int} (hpe : p = 2147483647) (hp : isPr p) {M : mv_M} {r K kept : Nat} {lead : Nat → Nat} {Tb : Nat → Nat → Int} {w0 : Nat → Int} (hK : K ≤ 10) (hk : kept < K) (hs : rkS M r K kept lead Tb) (he : rkE p K kept lead Tb) (hw : ∀ j, j < K → (M.2.1 (r + 1) j).toInt = w0 j ∧ 0 ≤ w0 j ∧ w0 j < p) :
    ∃ (kept' : Nat) (lead' : Nat → Nat) (Tb' : Nat → Nat → Int), kept' ≤ K ∧ rkS (raK M r) r K kept' lead' Tb' ∧ rkE p K kept' lead' Tb' ∧ ∀ f, (∀ t, t < kept' → p ∣ lin K f (Tb' t)) ↔ ((∀ t, t < kept → p ∣ lin K f (Tb t)) ∧ p ∣ lin K f w0) := by
  obtain ⟨w, a1, a2, a3⟩ := kfS_spec hpe hp hK (by omega) hs he hw kept (Nat.le_refl _)
  obtain ⟨⟨k0, k1⟩, k2, k3⟩ := id hs
  have zR := kfS_R r M kept
  have z0 : (0 : Int64).toInt = 0 := by decide
  have e0 : (M.1 r 0).toNatClampNeg = K := by rw [k0]; exact nI_clamp (by omega)
  have e1 : (M.1 r 1).toNatClampNeg = kept := by rw [k1]; exact nI_clamp (by omega)
  have fz : ∀ j, j < ffF ((kfS r kept M).2.1 (r + 1)) K → w j = 0 := fun j hj => by
    have le := ffF_le ((kfS r kept M).2.1 (r + 1)) K
    have := ffF_z _ K j hj
    rw [i64_eq, (a1 j (by omega)).1, z0] at this
    exact this
  have le := ffF_le ((kfS r kept M).2.1 (r + 1)) K
  unfold raK
  rw [e0, e1]
  by_cases z : ffF ((kfS r kept M).2.1 (r + 1)) K < K
  · rw [if_pos z]
    -- the lead is not nought
    have nz : w (ffF ((kfS r kept M).2.1 (r + 1)) K) ≠ 0 := fun q => ffF_nz _ K z (i64_32 (by rw [(a1 _ z).1, q, z0]))
    generalize hq : ffF ((kfS r kept M).2.1 (r + 1)) K = q at *
    have iK : ∀ o j, ¬ (o = r + 3 ∧ j = kept) → ¬ (o = r ∧ j = 1) → (raKp (kfS r kept M) r q).1 o j = M.1 o j := fun o j h1 h2 => by
      have c1 : ((kfS r kept M).1 r 1).toNatClampNeg = kept := by rw [zR.1]; exact e1
      unfold raKp
      rw [c1]
      simp [mv_si, mv_cpm, h1, h2, zR.1]
    have i1 : (raKp (kfS r kept M) r q).1 r 1 = nI (kept + 1) := by
      have c1 : ((kfS r kept M).1 r 1).toNatClampNeg = kept := by rw [zR.1]; exact e1
      unfold raKp
      rw [c1]
      simp [mv_si]
    have i3 : (raKp (kfS r kept M) r q).1 (r + 3) kept = nI q := by
      have c1 : ((kfS r kept M).1 r 1).toNatClampNeg = kept := by rw [zR.1]; exact e1
      unfold raKp
      rw [c1]
      simp [mv_si, mv_cpm]
    have l2 : ∀ x, (raKp (kfS r kept M) r q).2.1 (r + 2) x = if kept * 10 ≤ x ∧ x < kept * 10 + 10 then (kfS r kept M).2.1 (r + 1) (x - kept * 10) else M.2.1 (r + 2) x := fun x => by
      have c1 : ((kfS r kept M).1 r 1).toNatClampNeg = kept := by rw [zR.1]; exact e1
      unfold raKp
      rw [c1]
      simp [mv_si, mv_cpm, va_cpy, zR.2.2 (r + 2) (by omega)]
    refine ⟨kept + 1, fun t => if t = kept then q else lead t, fun t j => if t = kept then w j else Tb t j, by omega, ⟨⟨by rw [iK r 0 (by omega) (by omega)]; exact k0, i1⟩, fun t ht => ?_, fun t j ht hj => ?_⟩, ⟨fun t ht => ?_, fun t j ht hj => ?_, fun s t hst ht => ?_⟩, fun f => ?_⟩
    · dsimp only
      by_cases y : t = kept
      · rw [y, if_pos rfl]; exact i3
      · rw [if_neg y, iK _ _ (by omega) (by omega)]; exact k2 t (by omega)
    · rw [l2]
      dsimp only
      by_cases y : t = kept
      · rw [if_pos (by omega), if_pos y, y, show kept * 10 + j - kept * 10 = j by omega]
        exact (a1 j hj).1
      · rw [if_neg (by omega), if_neg y]
        exact k3 t j (by omega) hj
    · dsimp only
      by_cases y : t = kept
      · rw [if_pos y, if_pos y]; exact ⟨z, nz⟩
      · rw [if_neg y, if_neg y]; exact he.1 t (by omega)
    · dsimp only
      by_cases y : t = kept
      · rw [if_pos y]; exact (a1 j hj).2
      · rw [if_neg y]; exact he.2.1 t j (by omega) hj
    · dsimp only
      rw [if_neg (show ¬ s = kept by omega)]
      by_cases y : t = kept
      · rw [if_pos y]; exact a2 s (by omega)
      · rw [if_neg y]; exact he.2.2 s t hst (by omega)
    · have eqw : (fun (t j : Nat) => if t = kept then w j else Tb t j) kept = w := by funext j; exact if_pos rfl
      have eqT : ∀ t, t ≠ kept → (fun (t j : Nat) => if t = kept then w j else Tb t j) t = Tb t := fun t ht => by funext j; exact if_neg ht
      refine ⟨fun hf => ?_, fun ⟨h1, h2⟩ t ht => ?_⟩
      · have hT : ∀ t, t < kept → p ∣ lin K f (Tb t) := fun t ht => by
          have := hf t (by omega)
          rw [eqT t (by omega)] at this
          exact this
        refine ⟨hT, (a3 f hT).mp ?_⟩
        have := hf kept (by omega)
        rw [eqw] at this
        exact this
      · by_cases y : t = kept
        · rw [y, eqw]
          exact (a3 f h1).mpr h2
        · rw [eqT t y]
          exact h1 t (by omega)
  · rw [if_neg z]
    have hw0 : ∀ j, j < K → w j = 0 := fun j hj => fz j (by omega)
    refine ⟨kept, lead, Tb, by omega, ⟨by rw [zR.1]; exact ⟨k0, k1⟩, by rw [zR.1]; exact k2, fun t j ht hj => by rw [zR.2.2 _ (by omega)]; exact k3 t j ht hj⟩, he, fun f => ⟨fun hf => ⟨hf, (a3 f hf).mp ?_⟩, fun h => h.1⟩⟩
    refine ⟨0, ?_⟩
    rw [Int.mul_zero]
    unfold lin
    exact sumZ_zero (fun j hj => by rw [hw0 j hj, Int.mul_zero])
/-- all steps -/
theorem ifF_spec {p : Int} (hpe : p = 2147483647) (hp : isPr p) {r b n K : Nat} {X : Nat → Nat → Int} (hK : K = n * (n + 1) / 2) (hK10 : K ≤ 10) (hn : n ≤ 4) (hb : b + 3 < r ∨ r + 3 < b) :
    ∀ (m i : Nat) (M : mv_M) (kept : Nat) (lead : Nat → Nat) (Tb : Nat → Nat → Int), kept ≤ K → rkS M r K kept lead Tb → rkE p K kept lead Tb → (∀ f, (∀ t, t < kept → p ∣ lin K f (Tb t)) ↔ ∀ s, s < i → p ∣ lin K f (fun j => X s (prA n j) * X s (prB n j))) → (∀ s k, i ≤ s → s < i + m → k < 4 → ((boN M b s k).toInt64).toInt = X s k ∧ bd (X s k) (2 ^ 30)) → ((ifF r b n m i M).1 r 1 = (ifF r b n m i M).1 r 0 ↔ ∀ f : Nat → Int, (∀ s, s < i + m → p ∣ lin K f (fun j => X s (prA n j) * X s (prB n j))) → ∀ j, j < K → p ∣ f j)
  | 0, i, M, kept, lead, Tb, hk, hs, he, hf, hX => by
    show M.1 r 1 = M.1 r 0 ↔ _
    rw [hs.1.1, hs.1.2]
    have ef := ech_full (K := K) (kept := kept) (lead := lead) (Tb := Tb) hp (fun t ht => (he.1 t ht).1) (fun t ht q => by
      have b := he.1 t ht
      have c := he.2.1 t _ ht b.1
      have := Int.le_of_dvd (by omega) q
      omega) (fun s t hst ht => by rw [he.2.2 s t hst ht]; exact ⟨0, by rw [Int.mul_zero]⟩) hk
    refine ⟨fun q => ?_, fun q => ?_⟩
    · have := ef.mp (nI_inj (by omega) (by omega) q)
      exact fun f h => this f ((hf f).mpr h)
    · rw [ef.mpr (fun f h => q f ((hf f).mp h))]
  | m + 1, i, M, kept, lead, Tb, hk, hs, he, hf, hX => by
    have e0 : (M.1 r 0).toNatClampNeg = K := by rw [hs.1.1]; exact nI_clamp (by omega)
    have e1 : (M.1 r 1).toNatClampNeg = kept := by rw [hs.1.2]; exact nI_clamp (by omega)
    unfold ifF
    rw [e0, e1]
    by_cases z : kept < K
    · rw [if_pos z]
      have zp : (2147483647 : Int64).toInt = 2147483647 := by decide
      have prK : ∀ j, j < K → prA n j < 4 ∧ prB n j < 4 := fun j hj => by
        have : n = 0 ∨ n = 1 ∨ n = 2 ∨ n = 3 ∨ n = 4 := by omega
        have all : ∀ (n : Fin 5) (j : Fin 10), prA n.val j.val < 4 ∧ prB n.val j.val < 4 := by decide
        exact all ⟨n, by omega⟩ ⟨j, by omega⟩
      have hw : ∀ j, j < K → ((raF M r b i n).2.1 (r + 1) j).toInt = (X i (prA n j) * X i (prB n j)) % p ∧ 0 ≤ (X i (prA n j) * X i (prB n j)) % p ∧ (X i (prA n j) * X i (prB n j)) % p < p := fun j hj => by
        refine ⟨?_, Int.emod_nonneg _ (by omega), Int.emod_lt_of_pos _ (by omega)⟩
        unfold raF
        rw [fillA_o]
        unfold raFr
        rw [if_pos (by rw [← hK]; exact hj)]
        unfold raV
        have x1 := hX i (prA n j) (Nat.le_refl _) (by omega) (prK j hj).1
        have x2 := hX i (prB n j) (Nat.le_refl _) (by omega) (prK j hj).2
        have bb := x1.2.mul x2.2
        unfold bd at bb
        rw [jFm_int (by rw [zp]; omega), i64_mul (by rw [x1.1, x2.1]; omega) (by rw [x1.1, x2.1]; omega), x1.1, x2.1, zp, hpe]
      have hs' : rkS (raF M r b i n) r K kept lead Tb := ⟨hs.1, hs.2.1, fun t j ht hj => by
        unfold raF
        rw [fillA_ne (by omega)]
        exact hs.2.2 t j ht hj⟩
      obtain ⟨kept', lead', Tb', q1, q2, q3, q4⟩ := raK_spec hpe hp hK10 z hs' he hw
      have hrec := ifF_spec hpe hp hK hK10 hn hb m (i + 1) (raK (raF M r b i n) r) kept' lead' Tb' q1 q2 q3 (fun f => by
        rw [q4 f, hf f]
        have le := lin_emod (p := p) (K := K) (f := f) (v := fun j => X i (prA n j) * X i (prB n j)) (w := fun j => (X i (prA n j) * X i (prB n j)) % p) (fun j _ => emod_dvd _ _)
        rw [← le]
        refine ⟨fun ⟨h1, h2⟩ s hs => ?_, fun h => ⟨fun s hs => h s (by omega), h i (by omega)⟩⟩
        by_cases y : s = i
        · rw [y]; exact h2
        · exact h1 s (by omega)) (fun s k h1 h2 hk4 => by
        have x := (raF_X M r b i n).tr (raK_X (raF M r b i n) r)
        have eb : boN (raK (raF M r b i n) r) b s k = boN M b s k := by
          unfold boN bc bw
          rw [x.2.1 b (by omega) (by omega), x.2.2.2 (b + 2) (by omega) (by omega), x.2.2.2 (b + 1) (by omega) (by omega), x.2.2.2 (b + 3) (by omega) (by omega)]
        rw [eb]
        exact hX s k (by omega) (by omega) hk4)
      rw [show i + (m + 1) = i + 1 + m by omega]
      exact hrec
    · rw [if_neg z, hs.1.1, hs.1.2]
      have hkK : kept = K := by omega
      have ef := ech_full (K := K) (kept := kept) (lead := lead) (Tb := Tb) hp (fun t ht => (he.1 t ht).1) (fun t ht q => by
        have b := he.1 t ht
        have c := he.2.1 t _ ht b.1
        have := Int.le_of_dvd (by omega) q
        omega) (fun s t hst ht => by rw [he.2.2 s t hst ht]; exact ⟨0, by rw [Int.mul_zero]⟩) hk
      refine ⟨fun _ f h => ?_, fun _ => by rw [hkK]⟩
      exact ef.mp hkK f ((hf f).mpr (fun s hs => h s (by omega)))
/-- the bench's count is exact -/
theorem ifO_full {M : mv_M} {b n c k : Nat} {lo sp : Nat → Int} {q : Int → Int} {P : Nat → Int} (h : bkL M b n lo sp q c P) (hB : bkB n lo sp) (hP : ∀ j, j < c → 0 ≤ P j ∧ P j < 524288) (hq : ∀ j, j < c → 0 ≤ q (P j)) (hn : 1 ≤ n ∧ n ≤ 4) (hk : k ≤ c) (hb : b = 29 ∨ b = 33) : ((ifO M 25 b k).1 25 1 = (ifO M 25 b k).1 25 0 ↔ fullP 2147483647 n k (rX n sp lo P)) := by
  have p0 := (prP_pr (k := 0) (by omega)).1
  have e0 : (prP 0).toInt = 2147483647 := by decide
  rw [e0] at p0
  have K10 : n * (n + 1) / 2 ≤ 10 := (pr_end n (by omega) 0 (by omega)).2.2.2
  have bwE : bw M b = n := h.1
  have s0 : (ifS M 25 b).1 25 0 = nI (n * (n + 1) / 2) := by simp [ifS, mv_si, bwE]
  have s1 : (ifS M 25 b).1 25 1 = nI 0 := by
    rw [nI_0]
    simp [ifS, mv_si]
  unfold ifO
  rw [bwE]
  have eb : ∀ s j, boN (ifS M 25 b) b s j = boN M b s j := fun s j => by
    have : (ifS M 25 b).1 b = M.1 b := by
      funext x
      have : ¬ b = 25 := by omega
      simp [ifS, mv_si, this]
    unfold boN bc bw
    rw [this]
    rfl
  have := ifF_spec (p := 2147483647) rfl p0 (r := 25) (b := b) (n := n) (K := n * (n + 1) / 2) (X := rX n sp lo P) rfl K10 hn.2 (by omega) k 0 (ifS M 25 b) 0 (fun _ => 0) (fun _ _ => 0) (by omega) ⟨⟨s0, s1⟩, fun t ht => by omega, fun t j ht hj => by omega⟩ ⟨fun t ht => by omega, fun t j ht hj => by omega, fun s t hst ht => by omega⟩ (fun f => ⟨fun _ s hs => by omega, fun _ t ht => by omega⟩) (fun s j h1 h2 hj => by
    rw [eb, boN_int h hB hP hq s j (by omega)]
    unfold rX
    refine ⟨rfl, ?_⟩
    by_cases y : j < n
    · rw [if_pos y]
      exact (bk_nb h hB hP hq s j (by omega) y).2
    · rw [if_neg y]
      unfold bd
      omega)
  rw [this, Nat.zero_add]
  exact Iff.rfl
