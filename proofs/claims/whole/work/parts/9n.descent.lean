/-! Forms that a prime forces to nought; rows that are free. -/
theorem descent {p : Int} (hp : 1 < p) {K : Nat} {C : (Nat → Int) → Prop} (h1 : ∀ h, C h → ∀ j, j < K → p ∣ h j) (h2 : ∀ h, C (fun j => p * h j) → C h) (hc : ∀ h h', (∀ j, j < K → h j = h' j) → C h → C h') : ∀ h, C h → ∀ j, j < K → h j = 0 := by
  have key : ∀ (m : Nat) (h : Nat → Int), C h → ∀ j, j < K → p ^ m ∣ h j := by
    intro m
    induction m with
    | zero =>
      intro h _ j _
      rw [Int.pow_zero]
      exact ⟨h j, by rw [Int.one_mul]⟩
    | succ m ih =>
      intro h hC j hj
      have d := h1 h hC
      have e : ∀ j, j < K → h j = p * (h j / p) := fun j hj => by
        obtain ⟨k, hk⟩ := d j hj
        rw [hk, Int.mul_ediv_cancel_left _ (by omega)]
      have hC' := h2 (fun j => h j / p) (hc h _ (fun j hj => e j hj) hC)
      obtain ⟨k, hk⟩ := ih _ hC' j hj
      refine ⟨k, ?_⟩
      rw [e j hj]
      rw [hk, Int.pow_succ]
      grind
  intro h hC j hj
  have big : ∀ m : Nat, (m : Int) < p ^ m := fun m => by
    induction m with
    | zero => rw [Int.pow_zero]; omega
    | succ m ih =>
      rw [Int.pow_succ]
      have : p ^ m * 2 ≤ p ^ m * p := Int.mul_le_mul_of_nonneg_left (by omega) (by omega)
      omega
  refine Classical.byContradiction (fun w => ?_)
  have d := key (h j).natAbs h hC j hj
  have b := big (h j).natAbs
  by_cases s : 0 ≤ h j
  · have := Int.le_of_dvd (by omega) d
    omega
  · have := Int.le_of_dvd (show 0 < - h j by omega) (Int.dvd_neg.mpr d)
    omega
/-- pairs of places, told one by one -/
theorem prAB : (prA 1 0 = 0 ∧ prB 1 0 = 0) ∧ (prA 2 0 = 0 ∧ prB 2 0 = 0 ∧ prA 2 1 = 0 ∧ prB 2 1 = 1 ∧ prA 2 2 = 1 ∧ prB 2 2 = 1) ∧ (prA 3 0 = 0 ∧ prB 3 0 = 0 ∧ prA 3 1 = 0 ∧ prB 3 1 = 1 ∧ prA 3 2 = 0 ∧ prB 3 2 = 2 ∧ prA 3 3 = 1 ∧ prB 3 3 = 1 ∧ prA 3 4 = 1 ∧ prB 3 4 = 2 ∧ prA 3 5 = 2 ∧ prB 3 5 = 2) ∧ (prA 4 0 = 0 ∧ prB 4 0 = 0 ∧ prA 4 1 = 0 ∧ prB 4 1 = 1 ∧ prA 4 2 = 0 ∧ prB 4 2 = 2 ∧ prA 4 3 = 0 ∧ prB 4 3 = 3 ∧ prA 4 4 = 1 ∧ prB 4 4 = 1 ∧ prA 4 5 = 1 ∧ prB 4 5 = 2 ∧ prA 4 6 = 1 ∧ prB 4 6 = 3 ∧ prA 4 7 = 2 ∧ prB 4 7 = 2 ∧ prA 4 8 = 2 ∧ prB 4 8 = 3 ∧ prA 4 9 = 3 ∧ prB 4 9 = 3) := by decide
/-- a form by its matrix -/
def frM (n : Nat) (f : Nat → Int) : Nat → Nat → Int := fun r c => if r ≤ c then f (prI n r c) else 0
theorem frm_qB {n : Nat} (hn : 1 ≤ n ∧ n ≤ 4) (f x : Nat → Int) : lin (n * (n + 1) / 2) f (fun j => x (prA n j) * x (prB n j)) = qB (frM n f) n x x := by
  obtain ⟨h1, h2, h3, h4⟩ := prAB
  have : n = 1 ∨ n = 2 ∨ n = 3 ∨ n = 4 := by omega
  rcases this with rfl | rfl | rfl | rfl
  · simp [lin, sumZ, qB, frM, prI, h1]
    grind
  · simp [lin, sumZ, qB, frM, prI, h2]
    grind
  · simp [lin, sumZ, qB, frM, prI, h3]
    grind
  · simp [lin, sumZ, qB, frM, prI, h4]
    grind
/-- the form of a matrix -/
def mtC (n : Nat) (H : Nat → Nat → Int) : Nat → Int := fun j => if prA n j = prB n j then H (prA n j) (prA n j) else H (prA n j) (prB n j) + H (prB n j) (prA n j)
theorem mtC_qB {n : Nat} (hn : 1 ≤ n ∧ n ≤ 4) (H : Nat → Nat → Int) (x : Nat → Int) : lin (n * (n + 1) / 2) (mtC n H) (fun j => x (prA n j) * x (prB n j)) = qB H n x x := by
  obtain ⟨h1, h2, h3, h4⟩ := prAB
  have : n = 1 ∨ n = 2 ∨ n = 3 ∨ n = 4 := by omega
  rcases this with rfl | rfl | rfl | rfl
  · simp [lin, sumZ, qB, mtC, h1]
    grind
  · simp [lin, sumZ, qB, mtC, h2]
    grind
  · simp [lin, sumZ, qB, mtC, h3]
    grind
  · simp [lin, sumZ, qB, mtC, h4]
    grind
theorem pr_hit {n i k : Nat} (hn : 1 ≤ n ∧ n ≤ 4) (hik : i ≤ k) (hk : k < n) : ∃ j, j < n * (n + 1) / 2 ∧ prA n j = i ∧ prB n j = k := by
  have all : ∀ (n : Fin 5) (i k : Fin 4), i.val ≤ k.val → k.val < n.val → prI n.val i.val k.val < n.val * (n.val + 1) / 2 ∧ prA n.val (prI n.val i.val k.val) = i.val ∧ prB n.val (prI n.val i.val k.val) = k.val := by decide
  exact ⟨_, all ⟨n, by omega⟩ ⟨i, by omega⟩ ⟨k, by omega⟩ hik hk⟩
theorem pr_rng {n j : Nat} (hn : 1 ≤ n ∧ n ≤ 4) (hj : j < n * (n + 1) / 2) : prA n j ≤ prB n j ∧ prB n j < n := by
  have K10 : n * (n + 1) / 2 ≤ 10 := (pr_end n (by omega) 0 (by omega)).2.2.2
  have all : ∀ (n : Fin 5) (j : Fin 10), j.val < n.val * (n.val + 1) / 2 → prA n.val j.val ≤ prB n.val j.val ∧ prB n.val j.val < n.val := by decide
  exact all ⟨n, by omega⟩ ⟨j, by omega⟩ hj
/-- a form that all steps make nought is nought -/
theorem quadZ {p : Int} (hp : 1 < p) {n kk : Nat} {X : Nat → Nat → Int} (hf : fullP p n kk X) (h : Nat → Int) (hz : ∀ s, s < kk → lin (n * (n + 1) / 2) h (fun j => X s (prA n j) * X s (prB n j)) = 0) : ∀ j, j < n * (n + 1) / 2 → h j = 0 := by
  refine descent hp (C := fun h => ∀ s, s < kk → lin (n * (n + 1) / 2) h (fun j => X s (prA n j) * X s (prB n j)) = 0) (fun h hh => hf h (fun s hs => ?_)) (fun h hh s hs => ?_) (fun h h' e hh s hs => ?_) h hz
  · have := hh s hs
    unfold lin at this
    rw [this]
    exact ⟨0, by rw [Int.mul_zero]⟩
  · have := hh s hs
    rw [lin_mul] at this
    rcases Int.mul_eq_zero.mp this with w | w
    · omega
    · exact w
  · rw [← hh s hs]
    unfold lin
    exact sumZ_congr _ (fun j hj => by rw [e j hj])
/-- a line that all steps make nought is nought -/
theorem linZ {p : Int} (hp : isPr p) {n kk : Nat} {X : Nat → Nat → Int} (hn : 1 ≤ n ∧ n ≤ 4) (hf : fullP p n kk X) (l : Nat → Int) (hz : ∀ s, s < kk → lin n l (X s) = 0) : ∀ j, j < n → l j = 0 := by
  have q := quadZ hp.1 hf (mtC n (fun i k => l i * l k)) (fun s hs => by
    rw [mtC_qB hn]
    have e : qB (fun i k => l i * l k) n (X s) (X s) = lin n l (X s) * lin n l (X s) := by
      have : n = 1 ∨ n = 2 ∨ n = 3 ∨ n = 4 := by omega
      rcases this with rfl | rfl | rfl | rfl <;> simp [lin, sumZ, qB] <;> grind
    rw [e, hz s hs, Int.zero_mul])
  intro j hj
  obtain ⟨t, ht, e1, e2⟩ := pr_hit hn (Nat.le_refl j) hj
  have := q t ht
  unfold mtC at this
  rw [e1, e2, if_pos rfl] at this
  rcases Int.mul_eq_zero.mp this with w | w
  · exact w
  · exact w
theorem skp_ne {l r : Nat} : skp l r ≠ l := by
  unfold skp
  split <;> omega
theorem coZ_row {T T' : Nat → Nat → Int} {n k c : Nat} (hn : 1 ≤ n ∧ n ≤ 4) (h : ∀ i j, i < n → j < n → i ≠ k → T i j = T' i j) : coZ T n k c = coZ T' n k c := by
  unfold coZ
  rw [mnZ_congr hn (fun t ht => ?_)]
  have hp : 0 < n - 1 := by
    rcases Nat.eq_zero_or_pos (n - 1) with w | w
    · rw [w] at ht; omega
    · exact w
  unfold mnEZ
  exact h _ _ (skp_lt (Nat.div_lt_of_lt_mul ht)) (skp_lt (Nat.mod_lt _ hp)) skp_ne
theorem dt_row {T : Nat → Nat → Int} {n k : Nat} (hn : 1 ≤ n ∧ n ≤ 4) (hk : k < n) : dtZ T n = sumZ (fun j => T k j * coZ T n k j) n := by
  rw [adjN hn.1 hn.2 hk hk, if_pos rfl]
def rpl (T : Nat → Nat → Int) (k : Nat) (x : Nat → Int) : Nat → Nat → Int := fun i j => if i = k then x j else T i j
theorem dt_rpl {T : Nat → Nat → Int} {n k : Nat} {x : Nat → Int} (hn : 1 ≤ n ∧ n ≤ 4) (hk : k < n) : dtZ (rpl T k x) n = lin n (fun j => coZ T n k j) x := by
  rw [dt_row hn hk]
  unfold lin
  refine sumZ_congr n (fun j hj => ?_)
  have e1 : rpl T k x k j = x j := if_pos rfl
  have e2 : coZ (rpl T k x) n k j = coZ T n k j := coZ_row hn (fun a b _ _ ha => if_neg ha)
  rw [e1, e2, Int.mul_comm]
theorem dt_id {n : Nat} {c : Int} (hn : 1 ≤ n ∧ n ≤ 4) : dtZ (fun i j => c * eZ i j) n = c ^ n := by
  have : n = 1 ∨ n = 2 ∨ n = 3 ∨ n = 4 := by omega
  rcases this with rfl | rfl | rfl | rfl <;> simp [dtZ, sumZ, mnZ, mnEZ, skp, sgZ, eZ] <;> grind
/-- what holds of steps in every row holds of all rows that steps reach -/
theorem rows_all {p : Int} {n kk : Nat} {X : Nat → Nat → Int} {Y : (Nat → Int) → Prop} (hn : 1 ≤ n ∧ n ≤ 4) (hY : ∀ l : Nat → Int, (∀ s, s < kk → p ∣ lin n l (X s)) → ∀ y, Y y → p ∣ lin n l y) (h0 : ∀ σ : Nat → Nat, (∀ r, r < n → σ r < kk) → p ∣ dtZ (fun i j => X (σ i) j) n) : ∀ k, k ≤ n → ∀ T : Nat → Nat → Int, (∀ i, i < k → Y (T i)) → (∀ i, k ≤ i → i < n → ∃ s, s < kk ∧ T i = X s) → p ∣ dtZ T n
  | 0, _, T, _, h2 => by
    have hg : ∃ g : Nat → Nat, ∀ i, i < n → g i < kk ∧ T i = X (g i) := ⟨fun i => if hi : i < n then Classical.choose (h2 i (Nat.zero_le _) hi) else 0, fun i hi => by
      dsimp only
      rw [dif_pos hi]
      exact Classical.choose_spec (h2 i (Nat.zero_le _) hi)⟩
    obtain ⟨g, hg⟩ := hg
    have e : dtZ T n = dtZ (fun i j => X (g i) j) n := dtZ_congr hn (fun i j hi _ => by rw [(hg i hi).2])
    rw [e]
    exact h0 g (fun r hr => (hg r hr).1)
  | k + 1, hk, T, h1, h2 => by
    have e : dtZ T n = lin n (fun j => coZ T n k j) (T k) := by
      rw [dt_row hn (show k < n by omega)]
      unfold lin
      exact sumZ_congr n (fun j _ => by rw [Int.mul_comm])
    rw [e]
    refine hY _ (fun s hs => ?_) _ (h1 k (by omega))
    rw [← dt_rpl hn (by omega)]
    refine rows_all hn hY h0 k (by omega) _ (fun i hi => ?_) (fun i hi1 hi2 => ?_)
    · have : rpl T k (X s) i = T i := by
        funext j
        exact if_neg (by omega)
      rw [this]
      exact h1 i (by omega)
    · by_cases y : i = k
      · refine ⟨s, hs, ?_⟩
        funext j
        exact if_pos y
      · have : rpl T k (X s) i = T i := by
          funext j
          exact if_neg y
        rw [this]
        exact h2 i (by omega) hi2
theorem free_tuple {p : Int} (hp : isPr p) {n kk : Nat} {X : Nat → Nat → Int} (hn : 1 ≤ n ∧ n ≤ 4) (hf : fullP p n kk X) : ∃ σ : Nat → Nat, (∀ r, r < n → σ r < kk) ∧ dtZ (fun i j => X (σ i) j) n ≠ 0 := by
  refine Classical.byContradiction (fun w => ?_)
  have h0 : ∀ σ : Nat → Nat, (∀ r, r < n → σ r < kk) → (0 : Int) ∣ dtZ (fun i j => X (σ i) j) n := fun σ hσ => by
    have : dtZ (fun i j => X (σ i) j) n = 0 := Classical.byContradiction (fun q => w ⟨σ, hσ, q⟩)
    rw [this]
    exact ⟨0, rfl⟩
  have z0 : ∀ x : Int, (0 : Int) ∣ x → x = 0 := fun x ⟨k, hk⟩ => by rw [hk, Int.zero_mul]
  have := rows_all (p := 0) (Y := fun _ => True) hn (fun l hl y _ => by
    have e := linZ hp hn hf l (fun s hs => z0 _ (hl s hs))
    have : lin n l y = 0 := by
      unfold lin
      exact sumZ_zero (fun j hj => by rw [e j hj, Int.zero_mul])
    rw [this]
    exact ⟨0, rfl⟩) h0 n (Nat.le_refl _) (fun i j => 1 * eZ i j) (fun _ _ => trivial) (fun i h1 h2 => by omega)
  rw [dt_id hn] at this
  have := z0 _ this
  rw [Int.one_pow] at this
  omega
