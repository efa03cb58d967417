/-! Positive definite forms. -/
theorem qQ_zero {T : Nat → Nat → Int} {n : Nat} {x : Nat → Int} (h : ∀ i, i < n → x i = 0) : qQ T n x = 0 := by
  unfold qQ qB
  refine sumZ_zero (fun i hi => sumZ_zero (fun j _ => ?_))
  rw [h i hi, Int.zero_mul, Int.zero_mul]
theorem qB_zeror {T : Nat → Nat → Int} {n : Nat} {x y : Nat → Int} (h : ∀ i, i < n → y i = 0) : qB T n x y = 0 := by
  unfold qB
  refine sumZ_zero (fun i _ => sumZ_zero (fun j hj => ?_))
  rw [h j hj, Int.mul_zero]
theorem nz_or (n : Nat) (x : Nat → Int) : (∃ i, i < n ∧ x i ≠ 0) ∨ ∀ i, i < n → x i = 0 := by
  by_cases h : ∃ i, i < n ∧ x i ≠ 0
  · exact Or.inl h
  · refine Or.inr (fun i hi => ?_)
    exact Classical.byContradiction (fun q => h ⟨i, hi, q⟩)
theorem qPD.nonneg {T : Nat → Nat → Int} {n : Nat} (h : qPD T n) (x : Nat → Int) : 0 ≤ qQ T n x := by
  rcases nz_or n x with z | z
  · exact Int.le_of_lt (h.2 x z)
  · rw [qQ_zero z]; exact Int.le_refl 0
theorem qPD.cs {T : Nat → Nat → Int} {n : Nat} (h : qPD T n) (x y : Nat → Int) : qB T n x y * qB T n x y ≤ qQ T n x * qQ T n y := by
  rcases nz_or n y with z | z
  · have hy := h.2 y z
    have h0 := h.nonneg (fun i => qQ T n y * x i + (- qB T n x y) * y i)
    rw [qQ_add h.1] at h0
    have e : qQ T n y * qQ T n y * qQ T n x + 2 * (qQ T n y * -qB T n x y) * qB T n x y + -qB T n x y * -qB T n x y * qQ T n y = qQ T n y * (qQ T n x * qQ T n y - qB T n x y * qB T n x y) := by grind
    rw [e] at h0
    have h1 : 0 ≤ qQ T n x * qQ T n y - qB T n x y * qB T n x y := by
      refine Classical.byContradiction (fun q => ?_)
      have q' : qQ T n x * qQ T n y - qB T n x y * qB T n x y < 0 := by omega
      have := Int.mul_neg_of_pos_of_neg hy q'
      omega
    omega
  · rw [qB_zeror z, qQ_zero z]
    simp
theorem sumZ_ext {f : Nat → Int} {n : Nat} (h : f n = 0) : sumZ f (n + 1) = sumZ f n := by
  show sumZ f n + f n = sumZ f n
  rw [h]; omega
theorem qQ_ext {T : Nat → Nat → Int} {n : Nat} {x : Nat → Int} (h : x n = 0) : qQ T (n + 1) x = qQ T n x := by
  unfold qQ qB
  rw [sumZ_ext (by refine sumZ_zero (fun j _ => ?_); rw [h, Int.zero_mul, Int.zero_mul])]
  refine sumZ_congr n (fun i _ => ?_)
  exact sumZ_ext (by rw [h, Int.mul_zero])
theorem qPD.less {T : Nat → Nat → Int} {n : Nat} (h : qPD T (n + 1)) : qPD T n := by
  refine ⟨fun i j hi hj => h.1 i j (by omega) (by omega), fun x hx => ?_⟩
  obtain ⟨i, hi, hxi⟩ := hx
  have e : qQ T n x = qQ T (n + 1) (fun k => if k = n then 0 else x k) := by
    rw [qQ_ext (by simp)]
    refine qB_congr (fun _ _ _ _ => rfl) (fun k hk => ?_) (fun k hk => ?_)
    · rw [if_neg (by omega)]
    · rw [if_neg (by omega)]
  rw [e]
  exact h.2 _ ⟨i, by omega, by rw [if_neg (by omega)]; exact hxi⟩
/-- a row of cofactors -/
def coR (T : Nat → Nat → Int) (n i : Nat) : Nat → Int := fun j => coZ T n i j
theorem qB_co {T : Nat → Nat → Int} {n i : Nat} (h1 : 1 ≤ n) (h4 : n ≤ 4) (hi : i < n) (x : Nat → Int) : qB T n x (coR T n i) = x i * dtZ T n := by
  rw [qB_line, sumZ_one hi]
  · show x i * sumZ (fun j => T i j * coZ T n i j) n = x i * dtZ T n
    rw [adjN h1 h4 hi hi, if_pos rfl]
  · intro k hk hne
    show x k * sumZ (fun j => T k j * coZ T n i j) n = 0
    rw [adjN h1 h4 hk hi, if_neg hne, Int.mul_zero]
theorem qQ_co {T : Nat → Nat → Int} {n i : Nat} (h1 : 1 ≤ n) (h4 : n ≤ 4) (hi : i < n) : qQ T n (coR T n i) = coZ T n i i * dtZ T n := qB_co h1 h4 hi _
theorem qPD.det {T : Nat → Nat → Int} : ∀ {n : Nat}, 1 ≤ n → n ≤ 4 → qPD T n → 0 < dtZ T n
  | 0, h1, _, _ => absurd h1 (by omega)
  | 1, _, _, h => by
    have h0 := h.2 (fun _ => 1) ⟨0, by omega, by omega⟩
    have e : qQ T 1 (fun _ => 1) = dtZ T 1 := by simp [qQ, qB, sumZ, dtZ, mnZ, mnEZ, skp, sgZ]
    rw [← e]
    exact h0
  | n + 2, h1, h4, h => by
    have hd := qPD.det (n := n + 1) (by omega) (by omega) h.less
    have hc := co_last (T := T) (n := n + 1) (by omega) (by omega)
    have hq := h.2 (coR T (n + 2) (n + 1)) ⟨n + 1, by omega, by show coZ T (n + 1 + 1) (n + 1) (n + 1) ≠ 0; rw [hc]; omega⟩
    rw [qQ_co (by omega) (by omega) (by omega), hc] at hq
    exact Int.pos_of_mul_pos_right hq (by omega)
theorem qPD.co {T : Nat → Nat → Int} {n i : Nat} (h1 : 1 ≤ n) (h4 : n ≤ 4) (h : qPD T n) (hi : i < n) : 0 < coZ T n i i := by
  have hd := h.det h1 h4
  have hnz : ∃ k, k < n ∧ coR T n i k ≠ 0 := by
    rcases nz_or n (coR T n i) with z | z
    · exact z
    · have e := adjN (T := T) h1 h4 hi hi
      rw [if_pos rfl, sumZ_zero (fun j hj => by
        have : coZ T n i j = 0 := z j hj
        rw [this, Int.mul_zero])] at e
      omega
  have hq := h.2 (coR T n i) hnz
  rw [qQ_co h1 h4 hi] at hq
  exact Int.pos_of_mul_pos_left hq (by omega)
/-- the box has all rows up to a size -/
theorem qPD.box {T : Nat → Nat → Int} {n i : Nat} (h1 : 1 ≤ n) (h4 : n ≤ 4) (h : qPD T n) (hi : i < n) (x : Nat → Int) : x i * x i * dtZ T n ≤ qQ T n x * coZ T n i i := by
  have hd := h.det h1 h4
  have hc := h.cs x (coR T n i)
  rw [qB_co h1 h4 hi, qQ_co h1 h4 hi] at hc
  have e1 : x i * dtZ T n * (x i * dtZ T n) = dtZ T n * (x i * x i * dtZ T n) := by grind
  have e2 : qQ T n x * (coZ T n i i * dtZ T n) = dtZ T n * (qQ T n x * coZ T n i i) := by grind
  rw [e1, e2] at hc
  exact Int.le_of_mul_le_mul_left hc hd
/-- leading determinants above 0 -/
theorem sylv {T : Nat → Nat → Int} : ∀ {n : Nat}, n ≤ 4 → qSym T n → (∀ k, 1 ≤ k → k ≤ n → 0 < dtZ T k) → qPD T n
  | 0, _, hs, _ => ⟨hs, fun x hx => by obtain ⟨i, hi, _⟩ := hx; omega⟩
  | n + 1, h4, hs, hd => by
    have ih := sylv (T := T) (n := n) (by omega) (fun i j hi hj => hs i j (by omega) (by omega)) (fun k h1 h2 => hd k h1 (by omega))
    refine ⟨hs, fun x hx => ?_⟩
    have hD := hd (n + 1) (by omega) (by omega)
    have hC : 0 < coZ T (n + 1) n n := by
      rcases Nat.eq_zero_or_pos n with z | z
      · subst z; rw [co_1]; omega
      · rw [co_last z (by omega)]; exact hd n z (by omega)
    have hw : qQ T (n + 1) (fun i => coZ T (n + 1) n n * x i + (- x n) * coR T (n + 1) n i) = qQ T n (fun i => coZ T (n + 1) n n * x i + (- x n) * coR T (n + 1) n i) := qQ_ext (by
      show coZ T (n + 1) n n * x n + (- x n) * coZ T (n + 1) n n = 0
      grind)
    have he := qQ_add hs x (coR T (n + 1) n) (coZ T (n + 1) n n) (- x n)
    rw [hw, qB_co (by omega) h4 (by omega), qQ_co (by omega) h4 (by omega)] at he
    generalize coZ T (n + 1) n n = c at *
    generalize dtZ T (n + 1) = D at *
    have e2 : c * c * qQ T (n + 1) x = qQ T n (fun i => c * x i + (- x n) * coR T (n + 1) n i) + x n * x n * (c * D) := by grind
    have hcD : 0 < c * D := Int.mul_pos hC hD
    have hpos : 0 < c * c * qQ T (n + 1) x := by
      rw [e2]
      by_cases z : x n = 0
      · have hx' : ∃ i, i < n ∧ (c * x i + (- x n) * coR T (n + 1) n i) ≠ 0 := by
          obtain ⟨i, hi, hxi⟩ := hx
          have hin : i < n := by
            rcases Nat.lt_or_ge i n with q | q
            · exact q
            · obtain rfl : i = n := by omega
              exact absurd z hxi
          refine ⟨i, hin, ?_⟩
          rw [z]
          intro q
          have q2 : c * x i = 0 := by simpa using q
          rcases Int.mul_eq_zero.mp q2 with q3 | q3
          · omega
          · exact hxi q3
        have := ih.2 _ hx'
        rw [z]
        rw [z] at this
        simpa using this
      · have h3 : 0 < x n * x n := by
          rcases Int.lt_or_gt_of_ne z with q | q
          · exact Int.mul_pos_of_neg_of_neg q q
          · exact Int.mul_pos q q
        have h5 := Int.mul_pos h3 hcD
        have h6 := ih.nonneg (fun i => c * x i + (- x n) * coR T (n + 1) n i)
        omega
    exact Int.pos_of_mul_pos_right hpos (Int.mul_pos hC hC)
theorem qPD.lead {T : Nat → Nat → Int} : ∀ {n : Nat}, qPD T n → ∀ k, k ≤ n → qPD T k
  | 0, h, k, hk => by
    obtain rfl : k = 0 := by omega
    exact h
  | n + 1, h, k, hk => by
    rcases Nat.lt_or_ge k (n + 1) with q | q
    · exact qPD.lead h.less k (by omega)
    · obtain rfl : k = n + 1 := by omega
      exact h
theorem qQ_unit {T : Nat → Nat → Int} {n i : Nat} (hi : i < n) : qQ T n (fun k => if k = i then 1 else 0) = T i i := by
  unfold qQ qB
  rw [sumZ_one hi, sumZ_one hi]
  · simp
  · intro j _ hj
    simp [hj]
  · intro k _ hk
    refine sumZ_zero (fun j _ => ?_)
    simp [hk]
theorem qPD.diag {T : Nat → Nat → Int} {n i : Nat} (h : qPD T n) (hi : i < n) : 0 < T i i := by
  rw [← qQ_unit (T := T) hi]
  exact h.2 _ ⟨i, hi, by simp⟩
