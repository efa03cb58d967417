/-! The order of keys is what it should be. -/
def pm (n : Nat) (a b : Nat → Int64) : Prop := ∃ π : Nat → Nat, (∀ j, j < n → π j < n) ∧ (∀ i j, i < n → j < n → π i = π j → i = j) ∧ (∀ j, j < n → ∃ i, i < n ∧ π i = j) ∧ (∀ j, j < n → b j = a (π j)) ∧ ∀ j, n ≤ j → b j = a j
theorem pm.rf (n : Nat) (a : Nat → Int64) : pm n a a := ⟨fun j => j, fun _ h => h, fun _ _ _ _ e => e, fun j h => ⟨j, h, rfl⟩, fun _ _ => rfl, fun _ _ => rfl⟩
theorem pm.tr {n : Nat} {a b c : Nat → Int64} (h : pm n a b) (k : pm n b c) : pm n a c := by
  obtain ⟨π, p1, p2, p3, p4, p5⟩ := h
  obtain ⟨σ, s1, s2, s3, s4, s5⟩ := k
  refine ⟨fun j => π (σ j), fun j hj => p1 _ (s1 j hj), fun i j hi hj e => s2 i j hi hj (p2 _ _ (s1 i hi) (s1 j hj) e), fun j hj => ?_, fun j hj => by rw [s4 j hj, p4 _ (s1 j hj)], fun j hj => by rw [s5 j hj, p5 j hj]⟩
  obtain ⟨i, hi, e⟩ := p3 j hj
  obtain ⟨k, hk, e2⟩ := s3 i hi
  exact ⟨k, hk, by dsimp only; rw [e2, e]⟩
theorem pm.sw {n i c : Nat} {a : Nat → Int64} (hi : i < n) (hc : c < n) : pm n a (swF a i c) := by
  refine ⟨fun j => if j = i then c else if j = c then i else j, fun j hj => ?_, fun x y hx hy e => ?_, fun j hj => ?_, fun j hj => ?_, fun j hj => ?_⟩
  · dsimp only
    split
    · exact hc
    · split <;> omega
  · dsimp only at e
    split at e <;> split at e <;> (try split at e) <;> (try split at e) <;> omega
  · by_cases e1 : j = i
    · refine ⟨c, hc, ?_⟩
      dsimp only
      by_cases e2 : c = i
      · rw [if_pos e2, e1, e2]
      · rw [if_neg e2, if_pos rfl, e1]
    · by_cases e2 : j = c
      · refine ⟨i, hi, ?_⟩
        dsimp only
        rw [if_pos rfl, e2]
      · refine ⟨j, hj, ?_⟩
        dsimp only
        rw [if_neg e1, if_neg e2]
  · unfold swF
    dsimp only
    split
    · rfl
    · split <;> rfl
  · unfold swF
    rw [if_neg (by omega), if_neg (by omega)]
theorem pm.mono {n m : Nat} {a b : Nat → Int64} (h : pm n a b) (hm : n ≤ m) : pm m a b := by
  obtain ⟨π, p1, p2, p3, p4, p5⟩ := h
  refine ⟨fun j => if j < n then π j else j, fun j hj => ?_, fun x y hx hy e => ?_, fun j hj => ?_, fun j hj => ?_, fun j hj => p5 j (by omega)⟩
  · dsimp only
    by_cases z : j < n
    · rw [if_pos z]; have := p1 j z; omega
    · rw [if_neg z]; exact hj
  · dsimp only at e
    by_cases zx : x < n
    · by_cases zy : y < n
      · rw [if_pos zx, if_pos zy] at e
        exact p2 x y zx zy e
      · rw [if_pos zx, if_neg zy] at e
        have := p1 x zx
        omega
    · by_cases zy : y < n
      · rw [if_neg zx, if_pos zy] at e
        have := p1 y zy
        omega
      · rw [if_neg zx, if_neg zy] at e
        exact e
  · by_cases z : j < n
    · obtain ⟨i, hi, e⟩ := p3 j z
      exact ⟨i, by omega, by dsimp only; rw [if_pos hi, e]⟩
    · exact ⟨j, hj, by dsimp only; rw [if_neg z]⟩
  · dsimp only
    by_cases z : j < n
    · rw [if_pos z]; exact p4 j z
    · rw [if_neg z]; exact p5 j (by omega)
def isCh (i c : Nat) : Prop := c = 2 * i + 1 ∨ c = 2 * i + 2
def isHp (u lo : Nat) (a : Nat → Int64) : Prop := ∀ j c, lo ≤ j → isCh j c → c < u → (a c).toInt ≤ (a j).toInt
theorem skF_spec {u lo : Nat} : ∀ (f : Nat) (a : Nat → Int64) (i : Nat), lo ≤ i → u ≤ (i + 1) * 2 ^ f → (∀ j c, lo ≤ j → j ≠ i → isCh j c → c < u → (a c).toInt ≤ (a j).toInt) → (∀ p c, lo ≤ p → isCh p i → isCh i c → c < u → (a c).toInt ≤ (a p).toInt) → isHp u lo (skF u f a i) ∧ (i < u → pm u a (skF u f a i)) ∧ (u ≤ i → skF u f a i = a)
  | 0, a, i, hlo, hf, h1, h2 => by
    rw [Nat.pow_zero, Nat.mul_one] at hf
    refine ⟨fun j c hj hc hcu => ?_, fun _ => pm.rf u a, fun _ => rfl⟩
    by_cases e : j = i
    · subst e
      unfold isCh at hc
      omega
    · exact h1 j c hj e hc hcu
  | f + 1, a, i, hlo, hf, h1, h2 => by
    unfold skF
    by_cases hu : u ≤ 2 * i + 1
    · rw [if_pos hu]
      refine ⟨fun j c hj hc hcu => ?_, fun _ => pm.rf u a, fun _ => rfl⟩
      by_cases e : j = i
      · subst e
        unfold isCh at hc
        omega
      · exact h1 j c hj e hc hcu
    · rw [if_neg hu]
      generalize hm : (if u ≤ 2 * i + 2 then 2 * i + 1 else if a (2 * i + 2) ≤ a (2 * i + 1) then 2 * i + 1 else 2 * i + 2) = m
      have hmc : isCh i m ∧ m < u ∧ ∀ c, isCh i c → c < u → (a c).toInt ≤ (a m).toInt := by
        rw [← hm]
        unfold isCh
        by_cases z1 : u ≤ 2 * i + 2
        · rw [if_pos z1]
          refine ⟨Or.inl rfl, by omega, fun c hc hcu => ?_⟩
          have e : c = 2 * i + 1 := by omega
          rw [e]
          exact Int.le_refl _
        · rw [if_neg z1]
          by_cases z2 : a (2 * i + 2) ≤ a (2 * i + 1)
          · rw [if_pos z2]
            refine ⟨Or.inl rfl, by omega, fun c hc hcu => ?_⟩
            rcases hc with rfl | rfl
            · exact Int.le_refl _
            · exact i64_le.mp z2
          · rw [if_neg z2]
            refine ⟨Or.inr rfl, by omega, fun c hc hcu => ?_⟩
            rw [i64_le] at z2
            rcases hc with rfl | rfl
            · omega
            · exact Int.le_refl _
      obtain ⟨hch, hmu, hmax⟩ := hmc
      have him : i < m := by unfold isCh at hch; omega
      by_cases z : a m ≤ a i
      · rw [if_pos z]
        rw [i64_le] at z
        refine ⟨fun j c hj hc hcu => ?_, fun _ => pm.rf u a, fun _ => rfl⟩
        by_cases e : j = i
        · subst e
          have := hmax c hc hcu
          omega
        · exact h1 j c hj e hc hcu
      · rw [if_neg z]
        rw [i64_le] at z
        have hsi : swF a i m i = a m := if_pos rfl
        have hsm : swF a i m m = a i := by unfold swF; rw [if_neg (by omega), if_pos rfl]
        have hso : ∀ j, j ≠ i → j ≠ m → swF a i m j = a j := fun j q1 q2 => by unfold swF; rw [if_neg q1, if_neg q2]
        have hfu : u ≤ (m + 1) * 2 ^ f := by
          have hge : 2 * (i + 1) ≤ m + 1 := by unfold isCh at hch; omega
          have h3 : 2 * (i + 1) * 2 ^ f ≤ (m + 1) * 2 ^ f := Nat.mul_le_mul_right _ hge
          have h4 : (i + 1) * 2 ^ (f + 1) = 2 * (i + 1) * 2 ^ f := by rw [Nat.pow_succ, Nat.mul_comm 2 (i + 1), Nat.mul_assoc, Nat.mul_comm (2 ^ f) 2]
          omega
        have H1 : ∀ j c, lo ≤ j → j ≠ m → isCh j c → c < u → (swF a i m c).toInt ≤ (swF a i m j).toInt := by
          intro j c hj hne hc hcu
          by_cases e : j = i
          · subst e
            rw [hsi]
            by_cases e2 : c = m
            · rw [e2, hsm]; omega
            · rw [hso c (by unfold isCh at hc; omega) e2]
              exact hmax c hc hcu
          · rw [hso j e hne]
            by_cases e2 : c = i
            · rw [e2, hsi]
              exact h2 j m hj (by rw [← e2]; exact hc) hch hmu
            · by_cases e3 : c = m
              · exfalso
                apply e
                unfold isCh at hc hch
                omega
              · rw [hso c e2 e3]
                exact h1 j c hj e hc hcu
        have H2 : ∀ p c, lo ≤ p → isCh p m → isCh m c → c < u → (swF a i m c).toInt ≤ (swF a i m p).toInt := by
          intro p c hp hpm hc hcu
          have ep : p = i := by unfold isCh at hpm hch; omega
          rw [ep, hsi, hso c (by unfold isCh at hc; omega) (by unfold isCh at hc; omega)]
          exact h1 m c (by omega) (by omega) hc hcu
        obtain ⟨r1, r2, r3⟩ := skF_spec (u := u) (lo := lo) f (swF a i m) m (by omega) hfu H1 H2
        exact ⟨r1, fun _ => (pm.sw (by omega) hmu).tr (r2 hmu), fun q => by omega⟩
theorem isHp.top {u : Nat} {a : Nat → Int64} (h : isHp u 0 a) : ∀ i, i < u → (a i).toInt ≤ (a 0).toInt := by
  intro i
  induction i using Nat.strongRecOn with
  | _ i ih =>
    intro hi
    rcases Nat.eq_zero_or_pos i with z | z
    · rw [z]; exact Int.le_refl _
    · have h1 := h ((i - 1) / 2) i (by omega) (by unfold isCh; omega) hi
      have h2 := ih ((i - 1) / 2) (by omega) (by omega)
      omega
theorem hpF_spec {n : Nat} (hn : n ≤ 1000) : ∀ (i : Nat) (a : Nat → Int64), i ≤ n → isHp n i a → isHp n 0 (hpF n i a) ∧ pm n a (hpF n i a)
  | 0, a, _, h => ⟨h, pm.rf n a⟩
  | i + 1, a, hi, h => by
    have hpw : n ≤ (i + 1) * 2 ^ 32 := by
      have : 1 * 2 ^ 32 ≤ (i + 1) * 2 ^ 32 := Nat.mul_le_mul_right _ (by omega)
      omega
    obtain ⟨r1, r2, r3⟩ := skF_spec (u := n) (lo := i) 32 a i (Nat.le_refl _) hpw (fun j c hj hne hc hcu => h j c (by omega) hc hcu) (fun p c hp hpi _ _ => by unfold isCh at hpi; omega)
    obtain ⟨q1, q2⟩ := hpF_spec hn i (skF n 32 a i) (by omega) r1
    exact ⟨q1, (r2 (by omega)).tr q2⟩
theorem sdF_spec {n : Nat} (hn : n ≤ 1000) : ∀ (k : Nat) (a : Nat → Int64), k < n → isHp (k + 1) 0 a → (∀ i j, i ≤ k → k < j → j < n → (a i).toInt ≤ (a j).toInt) → (∀ i j, k < i → i < j → j < n → (a i).toInt ≤ (a j).toInt) → (∀ i j, i < j → j < n → (sdF k a i).toInt ≤ (sdF k a j).toInt) ∧ pm n a (sdF k a)
  | 0, a, hk, _, h2, h3 => by
    refine ⟨fun i j hij hj => ?_, pm.rf n a⟩
    show (a i).toInt ≤ (a j).toInt
    rcases Nat.eq_zero_or_pos i with z | z
    · exact h2 i j (by omega) (by omega) hj
    · exact h3 i j z hij hj
  | k + 1, a, hk, h1, h2, h3 => by
    have htop := h1.top
    have hpw : k + 1 ≤ (0 + 1) * 2 ^ 32 := by omega
    have b0 : swF a (k + 1) 0 0 = a (k + 1) := by unfold swF; rw [if_neg (by omega), if_pos rfl]
    have bk : swF a (k + 1) 0 (k + 1) = a 0 := if_pos rfl
    have bo : ∀ j, j ≠ 0 → j ≠ k + 1 → swF a (k + 1) 0 j = a j := fun j q1 q2 => by unfold swF; rw [if_neg q2, if_neg q1]
    obtain ⟨r1, r2, r3⟩ := skF_spec (u := k + 1) (lo := 0) 32 (swF a (k + 1) 0) 0 (Nat.le_refl _) hpw (fun j c hj hne hc hcu => by
      rw [bo c (by unfold isCh at hc; omega) (by omega), bo j hne (by unfold isCh at hc; omega)]
      exact h1 j c hj hc (by omega)) (fun p c hp hpi _ _ => by unfold isCh at hpi; omega)
    have hpm := r2 (by omega)
    obtain ⟨π, p1, p2, p3, p4, p5⟩ := id hpm
    have hlow : ∀ i, i ≤ k → (skF (k + 1) 32 (swF a (k + 1) 0) 0 i).toInt ≤ (a 0).toInt ∧ ∀ j, k + 1 < j → j < n → (skF (k + 1) 32 (swF a (k + 1) 0) 0 i).toInt ≤ (a j).toInt := fun i hi => by
      rw [p4 i (by omega)]
      have hπ := p1 i (by omega)
      by_cases e : π i = 0
      · rw [e, b0]
        exact ⟨htop (k + 1) (by omega), fun j q1 q2 => h2 (k + 1) j (by omega) q1 q2⟩
      · rw [bo (π i) e (by omega)]
        exact ⟨htop (π i) (by omega), fun j q1 q2 => h2 (π i) j (by omega) q1 q2⟩
    have hhi : ∀ j, k + 1 ≤ j → skF (k + 1) 32 (swF a (k + 1) 0) 0 j = if j = k + 1 then a 0 else a j := fun j hj => by
      rw [p5 j hj]
      by_cases e : j = k + 1
      · rw [e, bk, if_pos rfl]
      · rw [bo j (by omega) e, if_neg e]
    obtain ⟨q1, q2⟩ := sdF_spec hn k (skF (k + 1) 32 (swF a (k + 1) 0) 0) (by omega) r1 (fun i j hi hj hjn => by
      rw [hhi j (by omega)]
      by_cases e : j = k + 1
      · rw [if_pos e]; exact (hlow i hi).1
      · rw [if_neg e]; exact (hlow i hi).2 j (by omega) hjn) (fun i j hi hij hjn => by
      rw [hhi i (by omega), hhi j (by omega), if_neg (show ¬ j = k + 1 by omega)]
      by_cases e : i = k + 1
      · rw [if_pos e]; exact h2 0 j (by omega) (by omega) hjn
      · rw [if_neg e]; exact h3 i j (by omega) hij hjn)
    exact ⟨q1, ((pm.sw (by omega) (by omega)).tr (hpm.mono (by omega))).tr q2⟩
/-- sorted, and the same keys -/
theorem srF_spec {n : Nat} (hn : n ≤ 1000) (a : Nat → Int64) : (∀ i j, i < j → j < n → (srF n a i).toInt ≤ (srF n a j).toInt) ∧ pm n a (srF n a) := by
  rcases Nat.eq_zero_or_pos n with z | z
  · subst z
    exact ⟨fun i j _ hj => by omega, pm.rf 0 a⟩
  · obtain ⟨h1, h2⟩ := hpF_spec hn (n / 2) a (by omega) (fun j c hj hc hcu => by unfold isCh at hc; omega)
    have e : n - 1 + 1 = n := by omega
    obtain ⟨q1, q2⟩ := sdF_spec hn (n - 1) (hpF n (n / 2) a) (by omega) (by rw [e]; exact h1) (fun i j hi hj hjn => by omega) (fun i j hi hij hjn => by omega)
    exact ⟨q1, h2.tr q2⟩
