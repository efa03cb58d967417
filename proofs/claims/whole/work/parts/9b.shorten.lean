/-! Shortening: both sides take the same steps. -/
def eqN (n : Nat) (F G : Nat → Nat → Int64) : Prop := ∀ i j, i < n → j < n → F i j = G i j
theorem latOk.eqN {n : Nat} {F G : Nat → Nat → Int64} (h : latOk n F) (e : eqN n F G) : latOk n G := ⟨h.1, fun i j hi hj => by rw [← e i j hi hj]; exact h.2.1 i j hi hj, h.2.2.congr (fun i j hi hj => by unfold lT; rw [e i j hi hj])⟩
/-- the step's number by meaning -/
theorem stT_int {n : Nat} {F : Nat → Nat → Int64} {i k : Nat} (h : latOk n F) (hi : i < n) (hk : k < n) : stT F i k = (if i = k then stT F i k else shT F i k) ∧ ((0 ≤ (F i k).toInt → (stT F i k).toInt = (2 * (F i k).toInt + (F k k).toInt - 1) / (2 * (F k k).toInt)) ∧ ((F i k).toInt < 0 → (stT F i k).toInt = - ((2 * (- (F i k).toInt) + (F k k).toInt - 1) / (2 * (F k k).toInt)))) := by
  have b1 := h.2.1 i k hi hk
  have b2 := h.2.1 k k hk hk
  have p : 0 < (F k k).toInt := h.2.2.diag hk
  unfold bd at b1 b2
  have zero : (0 : Int64).toInt = 0 := by decide
  have one : (1 : Int64).toInt = 1 := by decide
  have two : (2 : Int64).toInt = 2 := by decide
  have e1 : (2 * F i k).toInt = 2 * (F i k).toInt := by rw [i64_mul (by rw [two]; omega) (by rw [two]; omega), two]
  have e2 : (2 * F k k).toInt = 2 * (F k k).toInt := by rw [i64_mul (by rw [two]; omega) (by rw [two]; omega), two]
  have pk : 0 < F k k := by rw [i64_lt, zero]; exact p
  by_cases hs : 0 ≤ F i k
  · have hs' : 0 ≤ (F i k).toInt := by rw [i64_le, zero] at hs; exact hs
    have e3 : (2 * F i k + F k k).toInt = 2 * (F i k).toInt + (F k k).toInt := by rw [i64_add (by rw [e1]; omega) (by rw [e1]; omega), e1]
    have e4 : (2 * F i k + F k k - 1).toInt = 2 * (F i k).toInt + (F k k).toInt - 1 := by rw [i64_sub (by rw [e3, one]; omega) (by rw [e3, one]; omega), e3, one]
    have ev : (stT F i k).toInt = (2 * (F i k).toInt + (F k k).toInt - 1) / (2 * (F k k).toInt) := by
      unfold stT
      rw [if_pos hs, i64_div (by rw [e4]; omega) (by rw [e2]; omega), e4, e2]
    refine ⟨?_, fun _ => ev, fun w => by omega⟩
    by_cases z : i = k
    · rw [if_pos z]
    · rw [if_neg z]
      unfold shT nzF stT
      rw [if_neg z, if_pos pk, if_pos hs, if_pos hs, jAbs_eq, if_neg (Int64.not_lt.mpr hs)]
  · have hs' : (F i k).toInt < 0 := by rw [i64_le, zero] at hs; omega
    have n1 : (-F i k).toInt = - (F i k).toInt := i64_neg (by omega)
    have e1' : (2 * -F i k).toInt = 2 * (- (F i k).toInt) := by rw [i64_mul (by rw [two, n1]; omega) (by rw [two, n1]; omega), two, n1]
    have e3 : (2 * -F i k + F k k).toInt = 2 * (- (F i k).toInt) + (F k k).toInt := by rw [i64_add (by rw [e1']; omega) (by rw [e1']; omega), e1']
    have e4 : (2 * -F i k + F k k - 1).toInt = 2 * (- (F i k).toInt) + (F k k).toInt - 1 := by rw [i64_sub (by rw [e3, one]; omega) (by rw [e3, one]; omega), e3, one]
    have f3 : (F k k - 2 * F i k).toInt = 2 * (- (F i k).toInt) + (F k k).toInt := by rw [i64_sub (by rw [e1]; omega) (by rw [e1]; omega), e1]; omega
    have f4 : (F k k - 2 * F i k - 1).toInt = 2 * (- (F i k).toInt) + (F k k).toInt - 1 := by rw [i64_sub (by rw [f3, one]; omega) (by rw [f3, one]; omega), f3, one]
    have same : F k k - 2 * F i k - 1 = 2 * -F i k + F k k - 1 := i64_32 (by rw [f4, e4])
    have dv : ((F k k - 2 * F i k - 1) / (2 * F k k)).toInt = (2 * (- (F i k).toInt) + (F k k).toInt - 1) / (2 * (F k k).toInt) := by rw [i64_div (by rw [f4]; omega) (by rw [e2]; omega), f4, e2]
    have dr : 0 ≤ (2 * (- (F i k).toInt) + (F k k).toInt - 1) / (2 * (F k k).toInt) := Int.ediv_nonneg (by omega) (by omega)
    have dl := Int.ediv_le_self (2 * (F k k).toInt) (show 0 ≤ 2 * (- (F i k).toInt) + (F k k).toInt - 1 by omega)
    refine ⟨?_, fun w => by omega, fun _ => ?_⟩
    · by_cases z : i = k
      · rw [if_pos z]
      · rw [if_neg z]
        unfold shT nzF stT
        rw [if_neg z, if_pos pk, if_neg hs, if_neg hs, jAbs_eq, if_pos (Int64.not_le.mp hs), same]
    · unfold stT
      rw [if_neg hs, i64_neg (by rw [dv]; omega), dv]
/-- the step shortens -/
theorem stT_short {m s t : Int} (hs : 0 < s) (h : (0 ≤ m → t = (2 * m + s - 1) / (2 * s)) ∧ (m < 0 → t = - ((2 * (- m) + s - 1) / (2 * s)))) : (t ≠ 0 → t * t * s - 2 * t * m < 0) ∧ bd t 2000 ∨ ¬ bd m 999 := by
  by_cases hb : bd m 999
  · left
    have key : ∀ a : Int, 0 ≤ a → a ≤ 999 → 0 ≤ (2 * a + s - 1) / (2 * s) ∧ ((2 * a + s - 1) / (2 * s) ≠ 0 → (2 * a + s - 1) / (2 * s) * s < 2 * a) ∧ (2 * a + s - 1) / (2 * s) ≤ 2000 := fun a h0 h1 => by
      have d1 := Int.emod_add_mul_ediv (2 * a + s - 1) (2 * s)
      have d2 := Int.emod_nonneg (2 * a + s - 1) (show 2 * s ≠ 0 by omega)
      have d3 : 0 ≤ (2 * a + s - 1) / (2 * s) := Int.ediv_nonneg (by omega) (by omega)
      have d4 : 2 * s * ((2 * a + s - 1) / (2 * s)) = 2 * ((2 * a + s - 1) / (2 * s) * s) := by grind
      generalize (2 * a + s - 1) / (2 * s) = q at *
      refine ⟨d3, fun hq => ?_, ?_⟩
      · have : 1 * s ≤ q * s := Int.mul_le_mul_of_nonneg_right (by omega) (by omega)
        omega
      · refine Classical.byContradiction (fun w => ?_)
        have : 2000 * s ≤ q * s := Int.mul_le_mul_of_nonneg_right (by omega) (by omega)
        omega
    unfold bd at hb
    by_cases hm : 0 ≤ m
    · have e := h.1 hm
      obtain ⟨k1, k2, k3⟩ := key m hm hb.2
      rw [← e] at k1 k2 k3
      refine ⟨fun ht => ?_, by unfold bd; omega⟩
      have := k2 ht
      have e2 : t * t * s - 2 * t * m = t * (t * s - 2 * m) := by grind
      rw [e2]
      exact Int.mul_neg_of_pos_of_neg (by omega) (by omega)
    · have e := h.2 (by omega)
      obtain ⟨k1, k2, k3⟩ := key (-m) (by omega) (by omega)
      generalize (2 * (-m) + s - 1) / (2 * s) = q at *
      subst e
      refine ⟨fun ht => ?_, by unfold bd; omega⟩
      have := k2 (by omega)
      have e2 : -q * -q * s - 2 * -q * m = q * (q * s - 2 * (-m)) := by grind
      rw [e2]
      exact Int.mul_neg_of_pos_of_neg (by omega) (by omega)
  · exact Or.inr hb
theorem stT_facts {n : Nat} {F : Nat → Nat → Int64} {i k : Nat} (h : latOk n F) (hi : i < n) (hk : k < n) : bd (stT F i k).toInt 2000 ∧ (¬ stT F i k = 0 → (stT F i k).toInt * (stT F i k).toInt * (F k k).toInt - 2 * (stT F i k).toInt * (F i k).toInt < 0) := by
  obtain ⟨-, e⟩ := stT_int h hi hk
  rcases stT_short (h.2.2.diag hk) e with ⟨w1, w2⟩ | w
  · refine ⟨w2, fun hz => w1 (fun q => hz (i64_32 ?_))⟩
    rw [q]; rfl
  · exact absurd (h.2.1 i k hi hk) w
theorem shC_iff {n : Nat} {F : Nat → Nat → Int64} {i k : Nat} (h : latOk n F) (hi : i < n) (hk : k < n) (hne : i ≠ k) : shT F i k = stT F i k ∧ (shC F i k < 0 ↔ ¬ stT F i k = 0) := by
  obtain ⟨e, -⟩ := stT_int h hi hk
  rw [if_neg hne] at e
  refine ⟨e.symm, ?_⟩
  obtain ⟨w1, w2⟩ := stT_facts h hi hk
  have b1 := h.2.1 i k hi hk
  have b2 := h.2.1 k k hk hk
  have zero : (0 : Int64).toInt = 0 := by decide
  have ec : shC F i k = Int64.ofInt ((stT F i k).toInt * (stT F i k).toInt * (F k k).toInt - 2 * (stT F i k).toInt * (F i k).toInt) := by
    unfold shC
    rw [← e, Int64.ofInt_sub, Int64.ofInt_mul, Int64.ofInt_mul, Int64.ofInt_mul, Int64.ofInt_mul, ← oI, ← oI, ← oI]
    rfl
  have q1 := ((w1.mul w1).mul b2).sub (((show bd (2 : Int) 2 by unfold bd; omega).mul w1).mul b1)
  unfold bd at q1
  have ev : (shC F i k).toInt = (stT F i k).toInt * (stT F i k).toInt * (F k k).toInt - 2 * (stT F i k).toInt * (F i k).toInt := by rw [ec, oI_in (by omega) (by omega)]
  rw [i64_lt, ev, zero]
  refine ⟨fun q z => ?_, w2⟩
  rw [z, zero] at q
  omega
theorem shC_diag {F : Nat → Nat → Int64} {i : Nat} : ¬ shC F i i < 0 := by
  have : shC F i i = 0 := by
    unfold shC shT
    rw [if_pos rfl]
    grind
  rw [this]
  decide
theorem shNo_iff {n : Nat} {F : Nat → Nat → Int64} (h : latOk n F) : shNo n F ↔ stNo n F := by
  refine ⟨fun w i k hi hk hne => ?_, fun w i k hi hk q => ?_⟩
  · exact Classical.byContradiction (fun z => w i k hi hk ((shC_iff h hi hk hne).2.mpr z))
  · by_cases e : i = k
    · rw [e] at q; exact shC_diag q
    · exact (shC_iff h hi hk e).2.mp q (w i k hi hk e)
theorem shAt_iff {n : Nat} {F : Nat → Nat → Int64} {i k : Nat} (h : latOk n F) : shAt n F i k ↔ stAt n F i k := by
  refine ⟨fun ⟨⟨a1, a2⟩, a3, a4⟩ => ?_, fun ⟨⟨a1, a2, a5⟩, a3, a4⟩ => ?_⟩
  · have hne : i ≠ k := fun e => by rw [e] at a3; exact shC_diag a3
    refine ⟨⟨a1, a2, hne⟩, (shC_iff h a1 a2 hne).2.mp a3, fun i' k' hi hk hn hl => ?_⟩
    exact Classical.byContradiction (fun z => a4 i' k' hi hk hl ((shC_iff h hi hk hn).2.mpr z))
  · refine ⟨⟨a1, a2⟩, (shC_iff h a1 a2 a5).2.mpr a3, fun i' k' hi hk hl q => ?_⟩
    by_cases e : i' = k'
    · rw [e] at q; exact shC_diag q
    · exact (shC_iff h hi hk e).2.mp q (a4 i' k' hi hk e hl)
