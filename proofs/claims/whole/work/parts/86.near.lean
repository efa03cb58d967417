/-! The rows nearest to a place. -/
theorem dnF_int {v y : Int64} (hy : 0 < y.toInt) (h1 : -2 ^ 62 ≤ v.toInt) (h2 : y.toInt ≤ 2 ^ 61) : (dnF v y).toInt = v.toInt / y.toInt := by
  have z0 : (0 : Int64).toInt = 0 := by decide
  have one : (1 : Int64).toInt = 1 := by decide
  have hv := i64_rng v
  unfold dnF
  by_cases z : v < 0
  · rw [if_pos z]
    rw [i64_lt, z0] at z
    have e1 : (y - 1).toInt = y.toInt - 1 := by rw [i64_sub (by rw [one]; omega) (by rw [one]; omega), one]
    have e2 : (y - 1 - v).toInt = y.toInt - 1 - v.toInt := by rw [i64_sub (by rw [e1]; omega) (by rw [e1]; omega), e1]
    have e3 : ((y - 1 - v) / y).toInt = (y.toInt - 1 - v.toInt) / y.toInt := by rw [i64_div (by rw [e2]; omega) hy, e2]
    have hm := Int.emod_add_mul_ediv v.toInt y.toInt
    have hm0 := Int.emod_nonneg v.toInt (show y.toInt ≠ 0 by omega)
    have hm1 := Int.emod_lt_of_pos v.toInt hy
    have e4 : (y.toInt - 1 - v.toInt) / y.toInt = - (v.toInt / y.toInt) := ((Int.ediv_emod_unique (a := y.toInt - 1 - v.toInt) (q := - (v.toInt / y.toInt)) (r := y.toInt - 1 - v.toInt % y.toInt) hy).mpr ⟨by rw [Int.mul_neg]; omega, by omega, by omega⟩).1
    rw [i64_neg (by
      rw [e3]
      have := Int.ediv_nonneg (show 0 ≤ y.toInt - 1 - v.toInt by omega) (show 0 ≤ y.toInt by omega)
      omega), e3, e4]
    omega
  · rw [if_neg z]
    rw [i64_lt, z0] at z
    exact i64_div (by omega) hy
def nlo (q : Int) (p R : Nat → Int) : Nat → Int := fun k => - ((R k - p k) / q)
def nsp (q : Int) (p R : Nat → Int) : Nat → Int := fun k => (R k + p k) / q + (R k - p k) / q + 1
def nqF (T : Nat → Nat → Int) (n : Nat) (q : Int) (p R : Nat → Int) (u : Int) : Int := qQ T n (fun k => q * unZ (nsp q p R) (nlo q p R) n u k - p k)
def nrd (q : Int) (p : Nat → Int) : Nat → Int := fun k => (2 * p k + q) / (2 * q)
def nGs (T : Nat → Nat → Int) (n : Nat) (q : Int) (p : Nat → Int) : Int := qQ T n (fun k => q * nrd q p k - p k)
/-- the nearest of the first u places -/
def isNr (q : Int → Int) (u : Int) (c : Nat) (P : Nat → Int) (b : Int) : Prop :=
  (∀ i, i < c → (0 ≤ P i ∧ P i < u) ∧ q (P i) = b) ∧ (∀ i j, i < j → j < c → P i < P j) ∧ ∀ p, 0 ≤ p → p < u → b ≤ q p ∧ (q p = b → ∃ i, i < c ∧ P i = p)
theorem nrd_bd {q : Int} {p : Nat → Int} (hq : 0 < q) (k : Nat) : bd (2 * (q * nrd q p k - p k)) q := by
  have h1 := Int.emod_add_mul_ediv (2 * p k + q) (2 * q)
  have h2 := Int.emod_nonneg (2 * p k + q) (show 2 * q ≠ 0 by omega)
  have h3 := Int.emod_lt_of_pos (2 * p k + q) (show 0 < 2 * q by omega)
  unfold nrd bd
  rw [Int.mul_assoc] at h1
  omega
theorem isNr.first {q : Int → Int} : isNr q 1 1 (fun _ => 0) (q 0) := by
  refine ⟨fun i hi => ⟨⟨by dsimp only; omega, by dsimp only; omega⟩, rfl⟩, fun i j h1 h2 => by omega, fun p h1 h2 => ?_⟩
  obtain rfl : p = 0 := by omega
  exact ⟨Int.le_refl _, fun _ => ⟨0, by omega, rfl⟩⟩
theorem isNr.less {q : Int → Int} {u b : Int} {c : Nat} {P : Nat → Int} (h : isNr q u c P b) (hu : 0 ≤ u) (hl : q u < b) : isNr q (u + 1) 1 (fun _ => u) (q u) := by
  refine ⟨fun i hi => ⟨⟨by dsimp only; omega, by dsimp only; omega⟩, rfl⟩, fun i j h1 h2 => by omega, fun p h1 h2 => ?_⟩
  rcases Int.lt_or_eq_of_le (show p ≤ u by omega) with z | z
  · have := (h.2.2 p h1 z).1
    exact ⟨by omega, fun e => by omega⟩
  · rw [z]
    exact ⟨Int.le_refl _, fun _ => ⟨0, by omega, rfl⟩⟩
theorem isNr.more {q : Int → Int} {u b : Int} {c : Nat} {P : Nat → Int} (h : isNr q u c P b) (hu : 0 ≤ u) (hl : b < q u) : isNr q (u + 1) c P b := by
  refine ⟨fun i hi => ?_, h.2.1, fun p h1 h2 => ?_⟩
  · obtain ⟨⟨a1, a2⟩, a3⟩ := h.1 i hi
    exact ⟨⟨a1, by omega⟩, a3⟩
  · rcases Int.lt_or_eq_of_le (show p ≤ u by omega) with z | z
    · exact h.2.2 p h1 z
    · rw [z]
      exact ⟨by omega, fun e => by omega⟩
def appP (P : Nat → Int) (c : Nat) (u : Int) : Nat → Int := fun j => if j < c then P j else u
theorem isNr.put {q : Int → Int} {u b : Int} {c : Nat} {P : Nat → Int} (h : isNr q u c P b) (hu : 0 ≤ u) (hl : q u = b) : isNr q (u + 1) (c + 1) (appP P c u) b := by
  refine ⟨fun i hi => ?_, fun i j hij hj => ?_, fun p h1 h2 => ?_⟩
  · unfold appP
    by_cases z : i < c
    · rw [if_pos z]
      obtain ⟨⟨a1, a2⟩, a3⟩ := h.1 i z
      exact ⟨⟨a1, by omega⟩, a3⟩
    · rw [if_neg z]
      exact ⟨⟨hu, by omega⟩, hl⟩
  · unfold appP
    rw [if_pos (show i < c by omega)]
    by_cases z : j < c
    · rw [if_pos z]
      exact h.2.1 i j hij z
    · rw [if_neg z]
      exact (h.1 i (by omega)).1.2
  · rcases Int.lt_or_eq_of_le (show p ≤ u by omega) with z | z
    · refine ⟨(h.2.2 p h1 z).1, fun e => ?_⟩
      obtain ⟨i, hi, e2⟩ := (h.2.2 p h1 z).2 e
      refine ⟨i, by omega, ?_⟩
      unfold appP
      rw [if_pos hi, e2]
    · rw [z]
      refine ⟨by omega, fun _ => ⟨c, by omega, ?_⟩⟩
      unfold appP
      rw [if_neg (by omega)]
/-- a list of nearest rows is a list of rows -/
theorem isNr.rows {q : Int → Int} {u b : Int} {c : Nat} {P : Nat → Int} (h : isNr q u c P b) : isRows (fun p => if q p = b then 1 else 2) 1 u c P := by
  refine ⟨fun i hi => ?_, fun i j hij hj => ?_, fun p h1 h2 h3 => ?_⟩
  · obtain ⟨a, b'⟩ := h.1 i hi
    refine ⟨a, ?_⟩
    unfold rOK
    dsimp only
    rw [if_pos b']
    omega
  · unfold rLt
    dsimp only
    rw [if_pos (h.1 i (by omega)).2, if_pos (h.1 j hj).2]
    exact Or.inr ⟨rfl, h.2.1 i j hij hj⟩
  · refine (h.2.2 p h1 h2).2 ?_
    unfold rOK at h3
    dsimp only at h3
    refine Classical.byContradiction (fun z => ?_)
    rw [if_neg z] at h3
    omega
theorem isNr.uniq {q : Int → Int} {u b b' : Int} {c c' : Nat} {P P' : Nat → Int} (h : isNr q u c P b) (h' : isNr q u c' P' b') (hc : 0 < c) (hc' : 0 < c') : b = b' ∧ c = c' ∧ ∀ i, i < c → P i = P' i := by
  have e : b = b' := by
    have h1 := h.1 0 hc
    have h2 := h'.1 0 hc'
    have h3 := (h.2.2 (P' 0) h2.1.1 h2.1.2).1
    have h4 := (h'.2.2 (P 0) h1.1.1 h1.1.2).1
    omega
  subst e
  exact ⟨rfl, h.rows.uniq h'.rows⟩
/-- found rows of one size, no more than a hundred kept -/
def ndL (n : Nat) (sp lo : Nat → Int) (b : Int) (A : Nat → Nat → Int64) (c : Nat) (P : Nat → Int) : Prop := (∀ j, j < c → (A 8 j).toInt = b) ∧ ∀ j, j < c → ∀ k, k < 4 → (A 7 (4 * j + k)).toInt = if k < n then unZ sp lo n (P j) k else 0
theorem ndL.put {n c : Nat} {sp lo : Nat → Int} {b : Int} {A : Nat → Nat → Int64} {P : Nat → Int} {u : Int} {z : Int64} (h : ndL n sp lo b A c P) (hz : z.toInt = b) (hn : ∀ k, k < n → (A 11 k).toInt = unZ sp lo n u k) : ndL n sp lo b (putA A n c z) (c + 1) (appP P c u) := by
  have hp : pnF (A 8) z c = c := by
    rcases Nat.eq_zero_or_pos c with e | e
    · subst e; rfl
    · obtain ⟨d, rfl⟩ : ∃ d, c = d + 1 := ⟨c - 1, by omega⟩
      unfold pnF
      rw [if_neg (by rw [i64_lt, h.1 d (by omega), hz]; omega)]
  have e8 : putA A n c z 8 = upL (psF (A 8) c c) c z := by unfold putA; rw [hp]; rfl
  have e7 : putA A n c z 7 = frN (A 7) (A 11) n c c 4 := by unfold putA; rw [hp]; rfl
  refine ⟨fun j hj => ?_, fun j hj k hk => ?_⟩
  · rw [e8]
    unfold upL psF
    by_cases w : j = c
    · rw [if_pos w, hz]
    · rw [if_neg w, if_neg (by omega)]
      exact h.1 j (by omega)
  · rw [e7]
    unfold frN appP
    by_cases w : j = c
    · subst w
      have eu : (if j < j then P j else u) = u := by simp
      rw [eu, if_pos (by omega), show 4 * j + k - 4 * j = k by omega]
      unfold nwF
      by_cases y : k < n
      · rw [if_pos y, if_pos y]
        exact hn k y
      · rw [if_neg y, if_neg y]
        rfl
    · rw [if_neg (by omega), if_pos (show j < c by omega)]
      unfold frS
      rw [if_neg (by omega)]
      exact h.2 j (by omega) k hk
