/-! Steps that one prime keeps free, the first prime keeps free. -/
theorem bnd_seq (g : Nat → Nat) : ∀ k, ∃ N, ∀ v, v < k → g v ≤ N
  | 0 => ⟨0, fun v hv => by omega⟩
  | k + 1 => by
    obtain ⟨N, hN⟩ := bnd_seq g k
    refine ⟨N + g k, fun v hv => ?_⟩
    by_cases w : v = k
    · rw [w]; omega
    · have := hN v (by omega); omega
theorem bnd_tuple {kk : Nat} : ∀ (n : Nat) (F : (Nat → Nat) → Nat), (∀ s s', (∀ r, r < n → s r = s' r) → F s = F s') → ∃ N, ∀ s, (∀ r, r < n → s r < kk) → F s ≤ N
  | 0, F, hF => ⟨F (fun _ => 0), fun s _ => by rw [hF s (fun _ => 0) (fun r hr => by omega)]; omega⟩
  | n + 1, F, hF => by
    have hv : ∀ v : Nat, ∃ N : Nat, ∀ s : Nat → Nat, (∀ r, r < n → s r < kk) → F (fun r => if r = n then v else s r) ≤ N := fun v => bnd_tuple n (fun s => F (fun r => if r = n then v else s r)) (fun s s' h => hF _ _ (fun r hr => by
      by_cases w : r = n
      · rw [if_pos w, if_pos w]
      · rw [if_neg w, if_neg w]; exact h r (by omega)))
    obtain ⟨N, hN⟩ := bnd_seq (fun v => Classical.choose (hv v)) kk
    refine ⟨N, fun s hs => ?_⟩
    have a := Classical.choose_spec (hv (s n)) s (fun r hr => hs r (by omega))
    have b := hN (s n) (hs n (by omega))
    have e : F s = F (fun r => if r = n then s n else s r) := hF _ _ (fun r hr => by
      by_cases w : r = n
      · rw [if_pos w, w]
      · rw [if_neg w])
    rw [e]
    exact Nat.le_trans a b
theorem max_tuple {kk n : Nat} {P : (Nat → Nat) → Prop} {F : (Nat → Nat) → Nat} (hF : ∀ s s', (∀ r, r < n → s r = s' r) → F s = F s') (hex : ∃ s, (∀ r, r < n → s r < kk) ∧ P s) : ∃ s, (∀ r, r < n → s r < kk) ∧ P s ∧ ∀ s', (∀ r, r < n → s' r < kk) → P s' → F s' ≤ F s := by
  obtain ⟨N, hN⟩ := bnd_tuple (kk := kk) n F hF
  have go : ∀ d s, (∀ r, r < n → s r < kk) → P s → N - F s ≤ d → ∃ s, (∀ r, r < n → s r < kk) ∧ P s ∧ ∀ s', (∀ r, r < n → s' r < kk) → P s' → F s' ≤ F s := by
    intro d
    induction d with
    | zero =>
      intro s h1 h2 h3
      refine ⟨s, h1, h2, fun s' h1' _ => ?_⟩
      have := hN s' h1'
      omega
    | succ d ih =>
      intro s h1 h2 h3
      by_cases w : ∃ s', (∀ r, r < n → s' r < kk) ∧ P s' ∧ F s < F s'
      · obtain ⟨s', a, b, c⟩ := w
        exact ih s' a b (by omega)
      · refine ⟨s, h1, h2, fun s' a b => ?_⟩
        exact Classical.byContradiction (fun q => w ⟨s', a, b, by omega⟩)
  obtain ⟨s, a, b⟩ := hex
  exact go _ s a b (Nat.le_refl _)
/-- coordinates: whole numbers, or half of odd ones -/
theorem coords {T B : Nat → Nat → Int} {n : Nat} {m0 : Int} (hn : 1 ≤ n ∧ n ≤ 4) (hT : qPD T n) (hB : ∀ i, i < n → qQ T n (B i) = m0) (hm : 0 < m0) (hmin : ∀ y, (∃ i, i < n ∧ y i ≠ 0) → m0 ≤ qQ T n y) (hD : dtZ B n ≠ 0) (x : Nat → Int) : ∃ (u : Int) (c : Nat → Int), (u = 1 ∨ u = 2) ∧ (∀ i, i < n → u * aC B n x i = dtZ B n * c i ∧ (u = 2 → c i % 2 = 1)) ∧ ∀ j, j < n → cmb B c n j = u * x j := by
  have hq : 0 < dtZ B n * dtZ B n := by
    rcases Int.lt_or_gt_of_ne hD with w | w
    · exact Int.mul_pos_of_neg_of_neg w w
    · exact Int.mul_pos w w
  have r := round_all (a := fun i => dtZ B n * aC B n x i) (x := x) hn hT hB hm hmin hD hq (fun j hj => by rw [cmb_mul, cmb_aC hn hj, Int.mul_assoc])
  have fin : ∀ (u : Int) (c : Nat → Int), (∀ i, i < n → u * aC B n x i = dtZ B n * c i) → ∀ j, j < n → cmb B c n j = u * x j := fun u c h j hj => by
    have e : dtZ B n * cmb B c n j = dtZ B n * (u * x j) := by
      rw [← cmb_mul, ← cmb_congr (c := fun i => u * aC B n x i) (fun i hi => h i hi), cmb_mul, cmb_aC hn hj]
      grind
    exact Int.eq_of_mul_eq_mul_left hD e
  rcases r with r | r
  · have hc : ∀ i, i < n → 1 * aC B n x i = dtZ B n * (dtZ B n * aC B n x i / (dtZ B n * dtZ B n)) := fun i hi => by
      have e := Int.mul_ediv_add_emod (dtZ B n * aC B n x i) (dtZ B n * dtZ B n)
      rw [r i hi, Int.add_zero] at e
      generalize dtZ B n * aC B n x i / (dtZ B n * dtZ B n) = z at *
      refine Int.eq_of_mul_eq_mul_left hD ?_
      rw [Int.one_mul, ← e, Int.mul_assoc]
    exact ⟨1, _, Or.inl rfl, fun i hi => ⟨hc i hi, fun q => by omega⟩, fin 1 _ hc⟩
  · have hc : ∀ i, i < n → 2 * aC B n x i = dtZ B n * (2 * (dtZ B n * aC B n x i / (dtZ B n * dtZ B n)) + 1) := fun i hi => by
      have e := Int.mul_ediv_add_emod (dtZ B n * aC B n x i) (dtZ B n * dtZ B n)
      have r1 := r i hi
      generalize dtZ B n * aC B n x i / (dtZ B n * dtZ B n) = z at *
      generalize dtZ B n * aC B n x i % (dtZ B n * dtZ B n) = y at *
      refine Int.eq_of_mul_eq_mul_left hD ?_
      grind
    exact ⟨2, fun i => 2 * (dtZ B n * aC B n x i / (dtZ B n * dtZ B n)) + 1, Or.inr rfl, fun i hi => ⟨hc i hi, fun _ => by
      dsimp only
      generalize dtZ B n * aC B n x i / (dtZ B n * dtZ B n) = z
      omega⟩, fin 2 _ hc⟩
theorem qB_wit {T B : Nat → Nat → Int} {n : Nat} (c : Nat → Int) : qB T n (cmb B c n) (cmb B c n) = qB (witG T B n) n c c := by
  unfold cmb
  rw [qB_suml, qB_line]
  refine sumZ_congr n (fun i _ => ?_)
  rw [qB_sumr]
  congr 1
  exact sumZ_congr n (fun k _ => by unfold witG; rw [Int.mul_comm])
theorem pr1 : isPr 2147483647 := by
  have := (prP_pr (k := 0) (by omega)).1
  rw [show (prP 0).toInt = 2147483647 by decide] at this
  exact this
/-- some steps' determinant the first prime does not divide -/
theorem free_first {T : Nat → Nat → Int} {X : Nat → Nat → Int} {n kk : Nat} {m0 p' : Int} (hn : 1 ≤ n ∧ n ≤ 4) (hT : qPD T n) (hm : 0 < m0) (hX : ∀ s, s < kk → qQ T n (X s) = m0) (hmin : ∀ y, (∃ i, i < n ∧ y i ≠ 0) → m0 ≤ qQ T n y) (hp' : isPr p') (hf : fullP p' n kk X) : ∃ s : Nat → Nat, (∀ r, r < n → s r < kk) ∧ ¬ (2147483647 : Int) ∣ dtZ (fun i j => X (s i) j) n := by
  obtain ⟨s0, hs0, hD⟩ := free_tuple hp' hn hf
  refine Classical.byContradiction (fun w => ?_)
  have h0 : ∀ σ : Nat → Nat, (∀ r, r < n → σ r < kk) → (2147483647 : Int) ∣ dtZ (fun i j => X (σ i) j) n := fun σ hσ => Classical.byContradiction (fun q => w ⟨σ, hσ, q⟩)
  have := rows_all (p := 2147483647) (Y := fun y => ∃ z : Nat → Int, y = fun j => 2 * z j) hn (fun l hl y hy => by
    obtain ⟨z, rfl⟩ := hy
    obtain ⟨u, c, hu, h1, h2⟩ := coords (B := fun i j => X (s0 i) j) hn hT (fun i hi => hX _ (hs0 i hi)) hm hmin hD z
    have e : lin n l (cmb (fun i j => X (s0 i) j) c n) = sumZ (fun k => c k * lin n l (X (s0 k))) n := by
      unfold lin cmb
      have a : ∀ j, l j * sumZ (fun k => c k * X (s0 k) j) n = sumZ (fun k => l j * (c k * X (s0 k) j)) n := fun j => (sumZ_mul _ _ _).symm
      rw [sumZ_congr n (fun j _ => a j), sumZ_comm]
      refine sumZ_congr n (fun k _ => ?_)
      rw [← sumZ_mul]
      exact sumZ_congr n (fun j _ => by grind)
    have d : (2147483647 : Int) ∣ lin n l (cmb (fun i j => X (s0 i) j) c n) := by
      rw [e]
      exact sumZ_dvd n (fun k hk => Int.dvd_mul_of_dvd_right (hl _ (hs0 k hk)))
    have e2 : lin n l (cmb (fun i j => X (s0 i) j) c n) = u * lin n l z := by
      unfold lin
      rw [← sumZ_mul]
      exact sumZ_congr n (fun j hj => by rw [h2 j hj]; grind)
    have e3 : lin n l (fun j => 2 * z j) = 2 * lin n l z := by
      unfold lin
      rw [← sumZ_mul]
      exact sumZ_congr n (fun j hj => by grind)
    rw [e2] at d
    rw [e3]
    rcases hu with rfl | rfl
    · rw [Int.one_mul] at d
      exact Int.dvd_mul_of_dvd_right d
    · exact d) h0 n (Nat.le_refl _) (fun i j => 2 * eZ i j) (fun i _ => ⟨eZ i, rfl⟩) (fun i h1 h2 => by omega)
  rw [dt_id hn] at this
  have c : n = 1 ∨ n = 2 ∨ n = 3 ∨ n = 4 := by omega
  rcases c with rfl | rfl | rfl | rfl
  · have := Int.le_of_dvd (by decide) this
    revert this; decide
  · have := Int.le_of_dvd (by decide) this
    revert this; decide
  · have := Int.le_of_dvd (by decide) this
    revert this; decide
  · have := Int.le_of_dvd (by decide) this
    revert this; decide
/-- pairs of two places -/
def oA (j : Nat) : Nat := if j = 2 ∨ j = 4 then 1 else if j = 5 then 2 else 0
def oB (j : Nat) : Nat := if j = 0 then 1 else if j < 3 then 2 else 3
theorem o_rng : ∀ (n : Fin 5) (j : Fin 6), j.val < n.val * (n.val - 1) / 2 → oA j.val < oB j.val ∧ oB j.val < n.val := by decide
theorem o_one : ∀ (j k : Fin 6), j ≠ k → ¬ ((oA j.val = oA k.val ∨ oA j.val = oB k.val) ∧ (oB j.val = oA k.val ∨ oB j.val = oB k.val)) := by decide
theorem o_rng' {n j : Nat} (hn : 1 ≤ n ∧ n ≤ 4) (hj : j < n * (n - 1) / 2) : oA j < oB j ∧ oB j < n ∧ j < 6 := by
  have k6 : n * (n - 1) / 2 ≤ 6 := by
    have : n = 1 ∨ n = 2 ∨ n = 3 ∨ n = 4 := by omega
    rcases this with rfl | rfl | rfl | rfl <;> decide
  have := o_rng ⟨n, by omega⟩ ⟨j, by omega⟩ hj
  exact ⟨this.1, this.2, by omega⟩
theorem off {n : Nat} (hn : 1 ≤ n ∧ n ≤ 4) (b : Nat → Nat → Int) (c : Nat → Int) : qB b n c c = sumZ (fun i => c i * c i * b i i) n + lin (n * (n - 1) / 2) (fun j => b (oA j) (oB j) + b (oB j) (oA j)) (fun j => c (oA j) * c (oB j)) := by
  have : n = 1 ∨ n = 2 ∨ n = 3 ∨ n = 4 := by omega
  rcases this with rfl | rfl | rfl | rfl <;> simp [lin, sumZ, qB, oA, oB] <;> grind
theorem qB_outer {n : Nat} {l m x : Nat → Int} : qB (fun r c => l r * m c) n x x = lin n l x * lin n m x := by
  unfold qB lin
  rw [← sumZ_mulr]
  refine sumZ_congr n (fun r _ => ?_)
  rw [← sumZ_mul]
  exact sumZ_congr n (fun c _ => by grind)
theorem qB_outs {n : Nat} {g : Nat → Int} {L M : Nat → Nat → Int} {x : Nat → Int} : ∀ K, qB (fun r c => sumZ (fun j => g j * (L j r * M j c)) K) n x x = sumZ (fun j => g j * (lin n (L j) x * lin n (M j) x)) K
  | 0 => by
    unfold qB
    exact sumZ_zero (fun i _ => sumZ_zero (fun j _ => by simp [sumZ]))
  | K + 1 => by
    have ih := qB_outs (n := n) (g := g) (L := L) (M := M) (x := x) K
    show qB (fun r c => sumZ (fun j => g j * (L j r * M j c)) K + g K * (L K r * M K c)) n x x = sumZ (fun j => g j * (lin n (L j) x * lin n (M j) x)) K + g K * (lin n (L K) x * lin n (M K) x)
    rw [← ih, ← qB_outer]
    unfold qB
    rw [← sumZ_mul, ← sumZ_add]
    refine sumZ_congr n (fun r _ => ?_)
    rw [← sumZ_mul, ← sumZ_add]
    exact sumZ_congr n (fun c _ => by grind)
