/-! Forms made of forms stay positive. -/
theorem qB_sumr {T : Nat → Nat → Int} {n : Nat} {x c : Nat → Int} {v : Nat → Nat → Int} : ∀ m, qB T n x (fun j => sumZ (fun k => c k * v k j) m) = sumZ (fun k => c k * qB T n x (v k)) m
  | 0 => by
    show qB T n x (fun _ => 0) = 0
    exact qB_zeror (fun _ _ => rfl)
  | m + 1 => by
    have ih := qB_sumr (T := T) (n := n) (x := x) (c := c) (v := v) m
    show qB T n x (fun j => sumZ (fun k => c k * v k j) m + c m * v m j) = sumZ (fun k => c k * qB T n x (v k)) m + c m * qB T n x (v m)
    rw [qB_addr, ih, qB_mulr]
/-- the dual -/
theorem qPD.dual {T : Nat → Nat → Int} {n : Nat} (h1 : 1 ≤ n) (h4 : n ≤ 4) (h : qPD T n) : qPD (fun i j => coZ T n i j) n := by
  have hd := h.det h1 h4
  refine ⟨fun i j hi hj => co_sym h1 h4 h.1 hi hj, fun x hx => ?_⟩
  have hy : ∀ z : Nat → Int, qB T n z (fun j => sumZ (fun k => x k * coR T n k j) n) = sumZ (fun k => x k * (z k * dtZ T n)) n := fun z => by
    rw [qB_sumr]
    exact sumZ_congr n (fun k hk => by rw [qB_co h1 h4 hk])
  have hQ : qQ T n (fun j => sumZ (fun k => x k * coR T n k j) n) = qQ (fun i j => coZ T n i j) n x * dtZ T n := by
    unfold qQ
    rw [hy, qB_line, ← sumZ_mulr]
    refine sumZ_congr n (fun k hk => ?_)
    have : sumZ (fun i => x i * coR T n i k) n = sumZ (fun j => coZ T n k j * x j) n := sumZ_congr n (fun i hi => by
      show x i * coZ T n i k = _
      rw [co_sym h1 h4 h.1 hi hk, Int.mul_comm])
    rw [this]
    grind
  obtain ⟨i, hi, hxi⟩ := hx
  have hne : ∃ j, j < n ∧ sumZ (fun k => x k * coR T n k j) n ≠ 0 := by
    refine Classical.byContradiction (fun q => ?_)
    have hz : ∀ j, j < n → sumZ (fun k => x k * coR T n k j) n = 0 := fun j hj => Classical.byContradiction (fun w => q ⟨j, hj, w⟩)
    have e := hy (fun k => if k = i then 1 else 0)
    rw [qB_zeror hz, sumZ_one hi (fun j _ hj => by rw [if_neg hj]; simp)] at e
    rw [if_pos rfl, Int.one_mul] at e
    rcases Int.mul_eq_zero.mp e.symm with w | w
    · exact hxi w
    · omega
  have hpos := h.2 _ hne
  rw [hQ] at hpos
  exact Int.pos_of_mul_pos_left hpos hd
theorem qPD.scale {T : Nat → Nat → Int} {n : Nat} {m : Int} (hm : 0 < m) (h : qPD T n) : qPD (fun i j => m * T i j) n := by
  refine ⟨fun i j hi hj => by show m * T i j = m * T j i; rw [h.1 i j hi hj], fun x hx => ?_⟩
  have e : qQ (fun i j => m * T i j) n x = m * qQ T n x := by
    unfold qQ qB
    rw [← sumZ_mul]
    refine sumZ_congr n (fun i _ => ?_)
    rw [← sumZ_mul]
    exact sumZ_congr n (fun j _ => by grind)
  rw [e]
  exact Int.mul_pos hm (h.2 x hx)
theorem sumZ_split {f : Nat → Int} {n : Nat} : ∀ w, sumZ f (n + w) = sumZ f n + sumZ (fun k => f (n + k)) w
  | 0 => by show sumZ f n = sumZ f n + 0; omega
  | w + 1 => by
    show sumZ f (n + w) + f (n + w) = sumZ f n + (sumZ (fun k => f (n + k)) w + f (n + w))
    rw [sumZ_split w]
    omega
def blk (A B : Nat → Nat → Int) (n : Nat) : Nat → Nat → Int := fun r c => if r < n ∧ c < n then A r c else if n ≤ r ∧ n ≤ c then B (r - n) (c - n) else 0
theorem qPD.sum {A B : Nat → Nat → Int} {n w : Nat} (hA : qPD A n) (hB : qPD B w) : qPD (blk A B n) (n + w) := by
  have sym : qSym (blk A B n) (n + w) := fun i j hi hj => by
    unfold blk
    by_cases z1 : i < n
    · by_cases z2 : j < n
      · rw [if_pos ⟨z1, z2⟩, if_pos ⟨z2, z1⟩, hA.1 i j z1 z2]
      · rw [if_neg (by omega), if_neg (by omega), if_neg (by omega), if_neg (by omega)]
    · by_cases z2 : j < n
      · rw [if_neg (by omega), if_neg (by omega), if_neg (by omega), if_neg (by omega)]
      · rw [if_neg (by omega), if_pos (by omega), if_neg (by omega), if_pos (by omega), hB.1 (i - n) (j - n) (by omega) (by omega)]
  have e : ∀ x, qQ (blk A B n) (n + w) x = qQ A n x + qQ B w (fun k => x (n + k)) := fun x => by
    unfold qQ qB
    rw [sumZ_split]
    congr 1
    · refine sumZ_congr n (fun i hi => ?_)
      rw [sumZ_split, sumZ_zero (n := w) (fun k hk => by
        unfold blk
        rw [if_neg (by omega), if_neg (by omega)]
        simp), Int.add_zero]
      exact sumZ_congr n (fun j hj => by unfold blk; rw [if_pos ⟨hi, hj⟩])
    · refine sumZ_congr w (fun i hi => ?_)
      rw [sumZ_split, sumZ_zero (n := n) (fun k hk => by
        unfold blk
        rw [if_neg (by omega), if_neg (by omega)]
        simp), Int.zero_add]
      refine sumZ_congr w (fun j hj => ?_)
      unfold blk
      rw [if_neg (by omega), if_pos (by omega), show n + i - n = i by omega, show n + j - n = j by omega]
  refine ⟨sym, fun x hx => ?_⟩
  rw [e]
  obtain ⟨i, hi, hxi⟩ := hx
  have a := hA.nonneg x
  have b := hB.nonneg (fun k => x (n + k))
  by_cases z : i < n
  · have := hA.2 x ⟨i, z, hxi⟩
    omega
  · have := hB.2 (fun k => x (n + k)) ⟨i - n, by omega, by
      show x (n + (i - n)) ≠ 0
      rw [show n + (i - n) = i by omega]
      exact hxi⟩
    omega
/-- rows by a table whose determinant is not nought -/
def witG (T S : Nat → Nat → Int) (n : Nat) : Nat → Nat → Int := fun i k => qB T n (S i) (S k)
theorem qB_suml {T : Nat → Nat → Int} {n : Nat} {y c : Nat → Int} {v : Nat → Nat → Int} : ∀ m, qB T n (fun j => sumZ (fun k => c k * v k j) m) y = sumZ (fun k => c k * qB T n (v k) y) m
  | 0 => by
    show qB T n (fun _ => 0) y = 0
    unfold qB
    exact sumZ_zero (fun i _ => sumZ_zero (fun j _ => by simp))
  | m + 1 => by
    have ih := qB_suml (T := T) (n := n) (y := y) (c := c) (v := v) m
    show qB T n (fun j => sumZ (fun k => c k * v k j) m + c m * v m j) y = sumZ (fun k => c k * qB T n (v k) y) m + c m * qB T n (v m) y
    rw [qB_addl, ih, qB_mull]
theorem qPD.within {T S : Nat → Nat → Int} {n : Nat} (h1 : 1 ≤ n) (h4 : n ≤ 4) (h : qPD T n) (hS : dtZ S n ≠ 0) : qPD (witG T S n) n := by
  refine ⟨fun i j _ _ => qB_sym h.1 _ _, fun x hx => ?_⟩
  have e : qQ (witG T S n) n x = qQ T n (fun j => sumZ (fun k => x k * S k j) n) := by
    unfold qQ
    rw [qB_suml, qB_line]
    refine sumZ_congr n (fun i _ => ?_)
    rw [qB_sumr]
    congr 1
    exact sumZ_congr n (fun k _ => by unfold witG; rw [Int.mul_comm])
  rw [e]
  refine h.2 _ (Classical.byContradiction (fun q => ?_))
  have hz : ∀ j, j < n → sumZ (fun k => x k * S k j) n = 0 := fun j hj => Classical.byContradiction (fun w => q ⟨j, hj, w⟩)
  obtain ⟨i, hi, hxi⟩ := hx
  have e2 : sumZ (fun j => sumZ (fun k => x k * S k j) n * coZ S n i j) n = x i * dtZ S n := by
    have : sumZ (fun j => sumZ (fun k => x k * S k j) n * coZ S n i j) n = sumZ (fun k => x k * sumZ (fun j => S k j * coZ S n i j) n) n := by
      have a : ∀ j, sumZ (fun k => x k * S k j) n * coZ S n i j = sumZ (fun k => x k * S k j * coZ S n i j) n := fun j => (sumZ_mulr _ _ _).symm
      rw [sumZ_congr n (fun j _ => a j), sumZ_comm]
      refine sumZ_congr n (fun k _ => ?_)
      rw [← sumZ_mul]
      exact sumZ_congr n (fun j _ => by rw [Int.mul_assoc])
    rw [this, sumZ_one hi (fun k hk hki => by rw [adjN h1 h4 hk hi, if_neg hki, Int.mul_zero]), adjN h1 h4 hi hi, if_pos rfl]
  rw [sumZ_zero (fun j hj => by rw [hz j hj, Int.zero_mul])] at e2
  rcases Int.mul_eq_zero.mp e2.symm with w | w
  · exact hxi w
  · exact hS w
theorem qPD.congr {T T' : Nat → Nat → Int} {n : Nat} (h : qPD T n) (e : ∀ i j, i < n → j < n → T i j = T' i j) : qPD T' n := by
  refine ⟨fun i j hi hj => by rw [← e i j hi hj, ← e j i hj hi]; exact h.1 i j hi hj, fun x hx => ?_⟩
  have : qQ T' n x = qQ T n x := (qB_congr e (fun _ _ => rfl) (fun _ _ => rfl)).symm
  rw [this]
  exact h.2 x hx
/-- changed places: rows by a table with its turned one -/
theorem qPD.turn {T T' U V : Nat → Nat → Int} {n : Nat} (h : qPD T n) (hT : ∀ i j, i < n → j < n → T' i j = qB T n (U i) (U j)) (hV : ∀ (x : Nat → Int), (∀ j, j < n → sumZ (fun k => x k * U k j) n = 0) → ∀ i, i < n → x i = 0) : qPD T' n := by
  have hw : qPD (witG T U n) n := by
    refine ⟨fun i j _ _ => qB_sym h.1 _ _, fun x hx => ?_⟩
    have e : qQ (witG T U n) n x = qQ T n (fun j => sumZ (fun k => x k * U k j) n) := by
      unfold qQ
      rw [qB_suml, qB_line]
      refine sumZ_congr n (fun i _ => ?_)
      rw [qB_sumr]
      congr 1
      exact sumZ_congr n (fun k _ => by unfold witG; rw [Int.mul_comm])
    rw [e]
    refine h.2 _ (Classical.byContradiction (fun q => ?_))
    obtain ⟨i, hi, hxi⟩ := hx
    exact hxi (hV x (fun j hj => Classical.byContradiction (fun w => q ⟨j, hj, w⟩)) i hi)
  exact hw.congr (fun i j hi hj => (hT i j hi hj).symm)
