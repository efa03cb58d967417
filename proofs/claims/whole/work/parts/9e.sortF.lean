/-! Both sorts. -/
theorem bsS_ap {n i : Nat} {x : mFW} {σ : Nat → Nat} (hi : i + 1 < n) : bsS n (apX n x σ) i = if dgX x (σ i) ≤ dgX x (σ (i + 1)) then apX n x σ else apX n x (swN σ i) := by
  unfold bsS
  have e1 := apX_dg (x := x) (σ := σ) (show i < n by omega)
  have e2 := apX_dg (x := x) (σ := σ) hi
  by_cases z : dgX x (σ i) ≤ dgX x (σ (i + 1))
  · rw [if_pos z, if_pos (by rw [i64_le, e1, e2]; exact z)]
  · rw [if_neg z, if_neg (by rw [i64_le, e1, e2]; exact z)]
    exact apX_sw hi
theorem swN_at (σ : Nat → Nat) (i : Nat) : swN σ i i = σ (i + 1) ∧ swN σ i (i + 1) = σ i ∧ ∀ r, r ≠ i → r ≠ i + 1 → swN σ i r = σ r := ⟨if_pos rfl, by unfold swN; rw [if_neg (by omega), if_pos rfl], fun r h1 h2 => by unfold swN; rw [if_neg h1, if_neg h2]⟩
theorem bpF_ap {n K : Nat} {x : mFW} {σ : Nat → Nat} (hK : 1 ≤ K ∧ K ≤ n) (h : plS n (dgX x) σ) (hD : ∀ p q, p < q → q < n → K ≤ q → dgX x (σ p) ≤ dgX x (σ q)) : ∀ i, i ≤ n - 1 → ∃ τ, bpF n i (apX n x σ) = apX n x τ ∧ plS n (dgX x) τ ∧ (∀ p q, p < q → q < n → K ≤ q → dgX x (τ p) ≤ dgX x (τ q)) ∧ ∀ p, p < min i (K - 1) → dgX x (τ p) ≤ dgX x (τ (min i (K - 1)))
  | 0, _ => ⟨σ, rfl, h, hD, fun p hp => by omega⟩
  | i + 1, hi => by
    obtain ⟨τ, e, t1, t2, t3⟩ := bpF_ap hK h hD i (by omega)
    show ∃ τ', bsS n (bpF n i (apX n x σ)) i = apX n x τ' ∧ _
    rw [e, bsS_ap (by omega)]
    by_cases z : dgX x (τ i) ≤ dgX x (τ (i + 1))
    · refine ⟨τ, by rw [if_pos z], t1, t2, fun p hp => ?_⟩
      by_cases w : i + 1 ≤ K - 1
      · rw [show min (i + 1) (K - 1) = i + 1 by omega] at hp ⊢
        rw [show min i (K - 1) = i by omega] at t3
        by_cases y : p = i
        · rw [y]; exact z
        · exact Int.le_trans (t3 p (by omega)) z
      · rw [show min (i + 1) (K - 1) = min i (K - 1) by omega] at hp ⊢
        exact t3 p hp
    · have w : i + 1 < K := Classical.byContradiction (fun w => z (t2 i (i + 1) (by omega) (by omega) (by omega)))
      obtain ⟨a1, a2, a3⟩ := swN_at τ i
      refine ⟨swN τ i, by rw [if_neg z], t1.sw (by omega) (by omega), fun p q hpq hq hKq => ?_, fun p hp => ?_⟩
      · rw [a3 q (by omega) (by omega)]
        by_cases y1 : p = i
        · rw [y1, a1]; exact t2 _ q (by omega) hq hKq
        · by_cases y2 : p = i + 1
          · rw [y2, a2]; exact t2 _ q (by omega) hq hKq
          · rw [a3 p y1 y2]; exact t2 p q hpq hq hKq
      · rw [show min (i + 1) (K - 1) = i + 1 by omega] at hp ⊢
        rw [show min i (K - 1) = i by omega] at t3
        rw [a2]
        by_cases y1 : p = i
        · rw [y1, a1]; omega
        · rw [a3 p y1 (by omega)]; exact t3 p (by omega)
theorem apX_id (n : Nat) (x : mFW) : apX n x (fun r => r) = x := by
  refine Prod.ext ?_ ?_
  · funext r c
    unfold apX
    dsimp only
    split <;> rfl
  · funext r c
    unfold apX
    dsimp only
    split <;> rfl
theorem brF_ap {n : Nat} {x : mFW} (hn : 1 ≤ n) : ∀ r, r ≤ n - 1 → ∃ τ, brF n r x = apX n x τ ∧ plS n (dgX x) τ ∧ ∀ p q, p < q → q < n → n - r ≤ q → dgX x (τ p) ≤ dgX x (τ q)
  | 0, _ => ⟨fun r => r, (apX_id n x).symm, plS.id n _, fun p q _ _ _ => by omega⟩
  | r + 1, hr => by
    obtain ⟨τ, e, t1, t2⟩ := brF_ap hn r (by omega)
    obtain ⟨ρ, e2, u1, u2, u3⟩ := bpF_ap (K := n - r) (by omega) t1 t2 (n - 1) (Nat.le_refl _)
    refine ⟨ρ, ?_, u1, fun p q hpq hq hK => ?_⟩
    · show bpF n (n - 1) (brF n r x) = _
      rw [e]; exact e2
    · rw [show min (n - 1) (n - r - 1) = n - r - 1 by omega] at u3
      by_cases y : q = n - r - 1
      · rw [y]; exact u3 p (by omega)
      · exact u2 p q hpq hq (by omega)
theorem inS_ap {n K : Nat} {x : mFW} (hK : K < n) : ∀ (k : Nat) (σ : Nat → Nat), k ≤ K → plS n (dgX x) σ → (∀ p q, p < q → q ≤ K → p ≠ k → q ≠ k → dgX x (σ p) ≤ dgX x (σ q)) → (∀ q, k < q → q ≤ K → dgX x (σ k) ≤ dgX x (σ q)) → ∃ τ, inS n k (apX n x σ) = apX n x τ ∧ plS n (dgX x) τ ∧ ∀ p q, p < q → q ≤ K → dgX x (τ p) ≤ dgX x (τ q)
  | 0, σ, hk, h, h1, h2 => ⟨σ, rfl, h, fun p q hpq hq => by
    by_cases z : p = 0
    · rw [z]; exact h2 q (by omega) hq
    · exact h1 p q hpq hq z (by omega)⟩
  | k + 1, σ, hk, h, h1, h2 => by
    have e1 := apX_dg (x := x) (σ := σ) (show k < n by omega)
    have e2 := apX_dg (x := x) (σ := σ) (show k + 1 < n by omega)
    unfold inS
    by_cases z : (apX n x σ).1 (k + 1) (k + 1) < (apX n x σ).1 k k
    · rw [if_pos z, chg_sw (by omega), apX_sw (by omega)]
      rw [i64_lt, e1, e2] at z
      obtain ⟨a1, a2, a3⟩ := swN_at σ k
      refine inS_ap hK k (swN σ k) (by omega) (h.sw (by omega) z) (fun p q hpq hq hp hqk => ?_) (fun q hq1 hq2 => ?_)
      · by_cases y1 : q = k + 1
        · rw [y1, a2, a3 p hp (by omega)]; exact h1 p k (by omega) (by omega) (by omega) (by omega)
        · rw [a3 q hqk y1]
          by_cases y2 : p = k + 1
          · rw [y2, a2]; exact h1 k q (by omega) hq (by omega) y1
          · rw [a3 p hp y2]; exact h1 p q hpq hq y2 y1
      · rw [a1]
        by_cases y1 : q = k + 1
        · rw [y1, a2]; omega
        · rw [a3 q (by omega) y1]; exact h2 q (by omega) hq2
    · rw [if_neg z]
      rw [i64_lt, e1, e2] at z
      refine ⟨σ, rfl, h, fun p q hpq hq => ?_⟩
      by_cases y1 : q = k + 1
      · rw [y1]
        by_cases y2 : p = k
        · rw [y2]; omega
        · have := h1 p k (by omega) (by omega) (by omega) (by omega)
          omega
      · by_cases y2 : p = k + 1
        · rw [y2]; exact h2 q (by omega) hq
        · exact h1 p q hpq hq y2 y1
theorem orF_ap {n : Nat} {x : mFW} (hn : 1 ≤ n) : ∀ i, i ≤ n - 1 → ∃ τ, orF n i x = apX n x τ ∧ plS n (dgX x) τ ∧ ∀ p q, p < q → q ≤ i → dgX x (τ p) ≤ dgX x (τ q)
  | 0, _ => ⟨fun r => r, (apX_id n x).symm, plS.id n _, fun p q _ _ => by omega⟩
  | i + 1, hi => by
    obtain ⟨τ, e, t1, t2⟩ := orF_ap hn i (by omega)
    obtain ⟨ρ, e2, u1, u2⟩ := inS_ap (K := i + 1) (by omega) (i + 1) τ (Nat.le_refl _) t1 (fun p q hpq hq hp hqk => t2 p q hpq (by omega)) (fun q h1 h2 => by omega)
    refine ⟨ρ, ?_, u1, u2⟩
    show inS n (i + 1) (orF n i x) = _
    rw [e]; exact e2
theorem sort_eq {n : Nat} {x y : mFW} (hn : 1 ≤ n) (e1 : eqN n x.1 y.1) (e2 : eqN n x.2 y.2) (hd : ∀ r, r < n → 0 < dgX x r) : eqN n (brF n (n - 1) x).1 (orF n (n - 1) y).1 ∧ eqN n (brF n (n - 1) x).2 (orF n (n - 1) y).2 ∧ ∃ τ, brF n (n - 1) x = apX n x τ ∧ plS n (dgX x) τ := by
  obtain ⟨σ, a1, a2, a3⟩ := brF_ap (x := x) hn (n - 1) (Nat.le_refl _)
  obtain ⟨τ, b1, b2, b3⟩ := orF_ap (x := y) hn (n - 1) (Nat.le_refl _)
  have hdg : ∀ r, r < n → dgX y r = dgX x r := fun r hr => by unfold dgX; rw [e1 r r hr hr]
  have b2' : plS n (dgX x) τ := ⟨b2.1, b2.2.1, fun r s hrs hs he => b2.2.2 r s hrs hs (by rw [hdg _ (b2.1 r (by omega)), hdg _ (b2.1 s hs)]; exact he)⟩
  have u := plS.uniq hd a2 b2' (fun r s hrs hs => a3 r s hrs hs (by omega)) (fun r s hrs hs => by rw [← hdg _ (b2.1 r (by omega)), ← hdg _ (b2.1 s hs)]; exact b3 r s hrs (by omega))
  rw [a1, b1]
  refine ⟨fun i j hi hj => ?_, fun i j hi hj => ?_, σ, rfl, a2⟩
  · unfold apX
    dsimp only
    rw [if_pos ⟨hi, hj⟩, if_pos ⟨hi, hj⟩, u i hi, u j hj]
    exact e1 _ _ (b2.1 i hi) (b2.1 j hj)
  · unfold apX
    dsimp only
    rw [if_pos ⟨hi, hj⟩, if_pos ⟨hi, hj⟩, u i hi]
    exact e2 _ _ (b2.1 i hi) hj
