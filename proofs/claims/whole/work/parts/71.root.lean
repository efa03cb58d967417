/-! Roots. -/
def isRt (v r : Int) : Prop := 0 ≤ r ∧ r * r ≤ v ∧ v < (r + 1) * (r + 1)
theorem sq_le {a b : Int} (ha : 0 ≤ a) (h : a ≤ b) : a * a ≤ b * b := Int.mul_le_mul h h ha (by omega)
theorem isRt.uniq {v r r' : Int} (h : isRt v r) (h' : isRt v r') : r = r' := by
  obtain ⟨a, b, c⟩ := h
  obtain ⟨a', b', c'⟩ := h'
  rcases Int.lt_trichotomy r r' with z | z | z
  · have := sq_le (show 0 ≤ r + 1 by omega) (show r + 1 ≤ r' by omega)
    omega
  · exact z
  · have := sq_le (show 0 ≤ r' + 1 by omega) (show r' + 1 ≤ r by omega)
    omega
theorem isRt.sq {v r x : Int} (h : isRt v r) : x * x ≤ v ↔ (-r ≤ x ∧ x ≤ r) := by
  obtain ⟨a, b, c⟩ := h
  constructor
  · intro q
    constructor
    · refine Classical.byContradiction (fun z => ?_)
      have := sq_le (show 0 ≤ r + 1 by omega) (show r + 1 ≤ -x by omega)
      have e : -x * -x = x * x := by grind
      omega
    · refine Classical.byContradiction (fun z => ?_)
      have := sq_le (show 0 ≤ r + 1 by omega) (show r + 1 ≤ x by omega)
      omega
  · intro ⟨q1, q2⟩
    by_cases z : 0 ≤ x
    · have := sq_le z q2
      omega
    · have := sq_le (show 0 ≤ -x by omega) (show -x ≤ r by omega)
      have e : -x * -x = x * x := by grind
      omega
theorem bt_int : ∀ k : Fin 32, (btF (k.val + 1)).toInt = 2 ^ k.val := by decide +kernel
theorem rbF_spec {v : Int64} (hv : v.toInt < 2 ^ 62) : ∀ (k : Nat), k ≤ 31 → ∀ r : Int64, 0 ≤ r.toInt → r.toInt + 2 ^ k ≤ 2 ^ 31 → r.toInt * r.toInt ≤ v.toInt → v.toInt < (r.toInt + 2 ^ k) * (r.toInt + 2 ^ k) → isRt v.toInt (rbF v k r).toInt
  | 0, _, r, h1, _, h3, h4 => by
    unfold rbF
    rw [Int.pow_zero] at h4
    exact ⟨h1, h3, h4⟩
  | k + 1, hk, r, h1, h2, h3, h4 => by
    have hb : (btF (k + 1)).toInt = 2 ^ k := bt_int ⟨k, by omega⟩
    have e2 : (2 : Int) ^ (k + 1) = 2 ^ k * 2 := Int.pow_succ 2 k
    have hp : 0 < (2 : Int) ^ k := Int.pow_pos (by omega)
    have hs : (r + btF (k + 1)).toInt = r.toInt + 2 ^ k := by rw [i64_add (by rw [hb]; omega) (by rw [hb]; omega), hb]
    have hq0 := sq_le (show 0 ≤ r.toInt + 2 ^ k by omega) (show r.toInt + 2 ^ k ≤ 2 ^ 31 by omega)
    have hq1 : 0 ≤ (r.toInt + 2 ^ k) * (r.toInt + 2 ^ k) := Int.mul_nonneg (by omega) (by omega)
    have hm : ((r + btF (k + 1)) * (r + btF (k + 1))).toInt = (r.toInt + 2 ^ k) * (r.toInt + 2 ^ k) := by rw [i64_mul (by rw [hs]; omega) (by rw [hs]; omega), hs]
    unfold rbF
    by_cases z : (r + btF (k + 1)) * (r + btF (k + 1)) ≤ v
    · rw [if_pos z]
      rw [i64_le, hm] at z
      refine rbF_spec hv k (by omega) _ (by omega) (by omega) (by rw [hs]; exact z) ?_
      rw [hs, show r.toInt + 2 ^ k + 2 ^ k = r.toInt + 2 ^ (k + 1) by omega]
      exact h4
    · rw [if_neg z]
      rw [i64_le, hm] at z
      exact rbF_spec hv k (by omega) r h1 (by omega) h3 (by omega)
theorem rbF_root {v : Int64} (h0 : 0 ≤ v.toInt) (hv : v.toInt < 2 ^ 62) : isRt v.toInt (rbF v 32 0).toInt := by
  have hb : (btF (31 + 1)).toInt = 2 ^ 31 := bt_int 31
  have z0 : (0 : Int64).toInt = 0 := by decide
  have hs : ((0 : Int64) + btF (31 + 1)).toInt = 2 ^ 31 := by rw [Int64.zero_add, hb]
  have hm : (((0 : Int64) + btF (31 + 1)) * (0 + btF (31 + 1))).toInt = 2 ^ 62 := by rw [i64_mul (by rw [hs]; decide) (by rw [hs]; decide), hs]; decide
  show isRt v.toInt (rbF v 31 (if (0 + btF (31 + 1)) * (0 + btF (31 + 1)) ≤ v then 0 + btF (31 + 1) else 0)).toInt
  rw [if_neg (by rw [i64_le, hm]; omega)]
  exact rbF_spec hv 31 (by omega) 0 (by rw [z0]; omega) (by rw [z0]; omega) (by rw [z0]; omega) (by rw [z0]; omega)
/-! the class's root -/
theorem rtA_spec {v : Int64} (hv : v.toInt < 2 ^ 62) : ∀ (n : Nat), n ≤ 31 → ∀ g : Int64, g.toInt = 2 ^ (31 - n) → v.toInt ≤ (rtA v n g).toInt * (rtA v n g).toInt ∧ 0 < (rtA v n g).toInt ∧ (rtA v n g).toInt ≤ 2 ^ 31
  | 0, _, g, hg => by
    unfold rtA
    rw [hg]
    refine ⟨?_, by omega, by omega⟩
    have : (2 : Int) ^ (31 - 0) * 2 ^ (31 - 0) = 2 ^ 62 := by decide
    omega
  | n + 1, hn, g, hg => by
    have hle : (2 : Int) ^ (31 - (n + 1)) ≤ 2 ^ 30 := by
      have := Nat.pow_le_pow_right (n := 2) (by omega) (show 31 - (n + 1) ≤ 30 by omega)
      have e : ((2 ^ (31 - (n + 1)) : Nat) : Int) = 2 ^ (31 - (n + 1)) := by simp
      have e2 : ((2 ^ 30 : Nat) : Int) = 2 ^ 30 := by decide
      omega
    have hp : 0 < (2 : Int) ^ (31 - (n + 1)) := Int.pow_pos (by omega)
    have hq := sq_le (show 0 ≤ g.toInt by omega) (show g.toInt ≤ 2 ^ 30 by omega)
    have hq0 : 0 ≤ g.toInt * g.toInt := Int.mul_nonneg (by omega) (by omega)
    have hm : (g * g).toInt = g.toInt * g.toInt := i64_mul (by omega) (by omega)
    unfold rtA
    by_cases z : v ≤ g * g
    · rw [if_pos z]
      rw [i64_le, hm] at z
      exact ⟨z, by omega, by omega⟩
    · rw [if_neg z]
      have two : (2 : Int64).toInt = 2 := by decide
      have h2 : (g * 2).toInt = g.toInt * 2 := by rw [i64_mul (by rw [two]; omega) (by rw [two]; omega), two]
      refine rtA_spec hv n (by omega) _ ?_
      rw [h2, hg, ← Int.pow_succ, show (31 - (n + 1)).succ = 31 - n by omega]
theorem rtB_spec {v : Int64} {r : Int} (h0 : 0 < v.toInt) (hr : isRt v.toInt r) : ∀ (n : Nat) (g : Int64), 0 < g.toInt → g.toInt ≤ 2 ^ 31 → r ≤ g.toInt → g.toInt - r < 2 ^ n → (rtB v n g).toInt = r
  | 0, g, h1, _, h3, h4 => by
    unfold rtB
    rw [Int.pow_zero] at h4
    omega
  | n + 1, g, h1, h2, h3, h4 => by
    obtain ⟨r1, r2, r3⟩ := id hr
    have hr1 : 1 ≤ r := by
      refine Classical.byContradiction (fun z => ?_)
      have e : r = 0 := by omega
      rw [e] at r3
      omega
    have hd : (v / g).toInt = v.toInt / g.toInt := i64_div (by omega) h1
    have hd0 : 0 ≤ v.toInt / g.toInt := Int.ediv_nonneg (by omega) (by omega)
    have hdm := Int.emod_add_mul_ediv v.toInt g.toInt
    have hm0 := Int.emod_nonneg v.toInt (show g.toInt ≠ 0 by omega)
    have hm1 := Int.emod_lt_of_pos v.toInt h1
    have hrv := i64_rng v
    have two : (2 : Int64).toInt = 2 := by decide
    have hdl : v.toInt / g.toInt ≤ v.toInt := Int.ediv_le_self _ (by omega)
    generalize hQ : v.toInt / g.toInt = Q at *
    generalize hG : g.toInt = G at *
    have hpow : (2 : Int) ^ (n + 1) = 2 ^ n * 2 := Int.pow_succ 2 n
    have big : Q ≤ r ∨ G ≤ r := by
      refine Classical.byContradiction (fun z => ?_)
      have z1 : r + 1 ≤ Q := by omega
      have z2 : r + 1 ≤ G := by omega
      have := Int.mul_le_mul z2 z1 (by omega) (by omega)
      omega
    have low : 2 * r ≤ G + Q := by
      refine Classical.byContradiction (fun z => ?_)
      have z1 : Q ≤ 2 * r - G - 1 := by omega
      have z2 : G * Q ≤ G * (2 * r - G - 1) := Int.mul_le_mul_of_nonneg_left z1 (by omega)
      have e : G * (2 * r - G - 1) = r * r - (r - G) * (r - G) - G := by grind
      have z3 : 0 ≤ (r - G) * (r - G) := by
        by_cases w : 0 ≤ r - G
        · exact Int.mul_nonneg w w
        · exact Int.mul_nonneg_of_nonpos_of_nonpos (by omega) (by omega)
      omega
    have hQb : G ≤ r ∨ Q ≤ 2 ^ 31 := by omega
    have hsum : (g + v / g).toInt = G + Q := by
      rw [i64_add (by rw [hd]; omega) (by
        rw [hd, hG]
        rcases hQb with w | w
        · have hGr : G = r := by omega
          have : Q ≤ 2 ^ 62 + 2 ^ 33 := by
            rw [← hQ]
            refine Int.le_trans (Int.ediv_le_self _ (by omega)) ?_
            have := sq_le (show 0 ≤ r + 1 by omega) (show r + 1 ≤ 2 ^ 31 + 1 by omega)
            omega
          omega
        · omega), hd, hG]
    have hnext : ((g + v / g) / 2).toInt = (G + Q) / 2 := by rw [i64_div (by rw [hsum]; omega) (by rw [two]; omega), hsum, two]
    unfold rtB
    rw [if_neg (by rw [i64_le, hG]; have : (0 : Int64).toInt = 0 := by decide
                   omega)]
    by_cases z : (g + v / g) / 2 < g
    · rw [if_pos z]
      rw [i64_lt, hnext, hG] at z
      refine rtB_spec h0 hr n _ (by omega) (by omega) (by omega) ?_
      rw [hnext]
      omega
    · rw [if_neg z]
      rw [i64_lt, hnext, hG] at z
      omega
theorem rtO_root {v : Int64} {r : Int} (h0 : 0 ≤ v.toInt) (hv : v.toInt < 2 ^ 62) (hr : isRt v.toInt r) : (rtO v).toInt = r := by
  obtain ⟨r1, r2, r3⟩ := id hr
  have z0 : (0 : Int64).toInt = 0 := by decide
  unfold rtO
  by_cases z : 0 < v
  · rw [if_pos z]
    rw [i64_lt, z0] at z
    obtain ⟨a1, a2, a3⟩ := rtA_spec hv 31 (by omega) 1 (by decide)
    refine rtB_spec z hr 64 _ a2 a3 ?_ ?_
    · refine Classical.byContradiction (fun w => ?_)
      have := Int.mul_self_lt_mul_self (show 0 ≤ (rtA v 31 1).toInt by omega) (show (rtA v 31 1).toInt < r by omega)
      omega
    · have : (2 : Int) ^ 64 = 18446744073709551616 := by decide
      omega
  · rw [if_neg z]
    rw [i64_lt, z0] at z
    have : v.toInt = 0 := by omega
    rw [z0]
    refine Classical.byContradiction (fun w => ?_)
    have := sq_le (show (0 : Int) ≤ 1 by omega) (show (1 : Int) ≤ r by omega)
    omega
