/-! The first row above a size. -/
theorem faF_spec {s : Nat → Int64} {z : Int64} {c : Nat} (hs : ∀ i j, i < j → j < c → (s i).toInt ≤ (s j).toInt) : ∀ (n f u : Nat), f ≤ u → u ≤ c → u - f < 2 ^ n → (∀ j, j < f → (s j).toInt ≤ z.toInt) → (∀ j, u ≤ j → j < c → z.toInt < (s j).toInt) → (∀ j, j < faF s z n f u → (s j).toInt ≤ z.toInt) ∧ (∀ j, faF s z n f u ≤ j → j < c → z.toInt < (s j).toInt) ∧ faF s z n f u ≤ c
  | 0, f, u, h1, h2, h3, h4, h5 => by
    rw [Nat.pow_zero] at h3
    have e : f = u := by omega
    unfold faF
    exact ⟨h4, by rw [e]; exact h5, by omega⟩
  | n + 1, f, u, h1, h2, h3, h4, h5 => by
    unfold faF
    by_cases hu : u ≤ f
    · rw [if_pos hu]
      have e : f = u := by omega
      exact ⟨h4, by rw [e]; exact h5, by omega⟩
    · rw [if_neg hu]
      have hp : 2 ^ (n + 1) = 2 ^ n * 2 := Nat.pow_succ 2 n
      by_cases hz : s ((f + u) / 2) ≤ z
      · rw [if_pos hz]
        rw [i64_le] at hz
        refine faF_spec hs n _ _ (by omega) h2 (by omega) (fun j hj => ?_) h5
        by_cases e : j = (f + u) / 2
        · rw [e]; exact hz
        · have := hs j ((f + u) / 2) (by omega) (by omega)
          omega
      · rw [if_neg hz]
        rw [i64_le] at hz
        refine faF_spec hs n _ _ (by omega) (by omega) (by omega) h4 (fun j hj hjc => ?_)
        by_cases e : j = (f + u) / 2
        · rw [e]; omega
        · have := hs ((f + u) / 2) j (by omega) hjc
          omega
