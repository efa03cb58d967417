/-! The first prime is as good as any. -/
theorem full_first {T : Nat → Nat → Int} {X : Nat → Nat → Int} {n kk : Nat} {m0 p' : Int} (hn : 1 ≤ n ∧ n ≤ 4) (hT : qPD T n) (hm : 0 < m0) (hm9 : m0 ≤ 999) (hX : ∀ s, s < kk → qQ T n (X s) = m0) (hmin : ∀ y, (∃ i, i < n ∧ y i ≠ 0) → m0 ≤ qQ T n y) (hp' : isPr p') (hf : fullP p' n kk X) : fullP 2147483647 n kk X := by
  obtain ⟨σ, hσ, hpD, hmax⟩ := max_tuple (kk := kk) (n := n) (P := fun s => ¬ (2147483647 : Int) ∣ dtZ (fun i j => X (s i) j) n) (F := fun s => (dtZ (fun i j => X (s i) j) n).natAbs) (fun s s' h => by
    rw [dtZ_congr hn (fun i j hi _ => by rw [h i hi])]) (free_first hn hT hm hX hmin hp' hf)
  have hBe : ∃ B : Nat → Nat → Int, B = fun i j => X (σ i) j := ⟨_, rfl⟩
  obtain ⟨B, hBe⟩ := hBe
  rw [← hBe] at hpD hmax
  have hBi : ∀ i, B i = X (σ i) := fun i => by rw [hBe]
  have hB : ∀ i, i < n → qQ T n (B i) = m0 := fun i hi => by rw [hBi i]; exact hX _ (hσ i hi)
  have hD : dtZ B n ≠ 0 := fun q => hpD (by rw [q]; exact ⟨0, rfl⟩)
  -- the rows' own form
  have hG := qPD.within hn.1 hn.2 hT hD
  have hGd : ∀ i, i < n → witG T B n i i = m0 := fun i hi => hB i hi
  have hGb : ∀ i k, i < n → k < n → bd (witG T B n i k) 999 := fun i k hi hk => by
    have c := hT.cs (B i) (B k)
    rw [hB i hi, hB k hk] at c
    unfold witG
    generalize qB T n (B i) (B k) = z at *
    refine ⟨Classical.byContradiction (fun q => ?_), Classical.byContradiction (fun q => ?_)⟩
    · have := Int.mul_le_mul (show m0 + 1 ≤ -z by omega) (show m0 + 1 ≤ -z by omega) (by omega) (by omega)
      rw [Int.neg_mul_neg] at this
      have e : (m0 + 1) * (m0 + 1) = m0 * m0 + 2 * m0 + 1 := by grind
      omega
    · have := Int.mul_le_mul (show m0 + 1 ≤ z by omega) (show m0 + 1 ≤ z by omega) (by omega) (by omega)
      have e : (m0 + 1) * (m0 + 1) = m0 * m0 + 2 * m0 + 1 := by grind
      omega
  have hbox : ∀ (u : Int) (c x : Nat → Int), (u = 1 ∨ u = 2) → qQ T n x = m0 → (∀ j, j < n → cmb B c n j = u * x j) → ∀ i, i < n → -2147483647 < c i ∧ c i < 2147483647 := fun u c x hu hx h i hi => by
    have e : qQ (witG T B n) n c = u * (u * m0) := by
      unfold qQ
      rw [← qB_wit, qB_congr (T' := T) (x' := fun j => u * x j) (y' := fun j => u * x j) (fun _ _ _ _ => rfl) h h, qB_mull, qB_mulr]
      rw [← hx]
      rfl
    have b := hG.box hn.1 hn.2 hi c
    rw [e] at b
    have co : bd (coZ (witG T B n) n i i) 5982017994 := by
      unfold coZ
      have m := mnZ_bd (s := mnEZ (witG T B n) n i i) hn.1 hn.2 (fun t ht => by
        have hp : 0 < n - 1 := by
          rcases Nat.eq_zero_or_pos (n - 1) with w | w
          · rw [w] at ht; omega
          · exact w
        exact hGb _ _ (skp_lt (Nat.div_lt_of_lt_mul ht)) (skp_lt (Nat.mod_lt _ hp)))
      unfold sgZ
      rw [if_pos (by omega), Int.one_mul]
      exact m
    have cp := hG.co hn.1 hn.2 hi
    have dp := hG.det hn.1 hn.2
    have cc : 0 ≤ c i * c i := by
      rcases Int.le_total 0 (c i) with y | y
      · exact Int.mul_nonneg y y
      · have := Int.mul_nonneg (show 0 ≤ -c i by omega) (show 0 ≤ -c i by omega)
        rw [Int.neg_mul_neg] at this
        exact this
    have l1 : c i * c i * 1 ≤ c i * c i * dtZ (witG T B n) n := Int.mul_le_mul_of_nonneg_left (by omega) cc
    have um : u * (u * m0) ≤ 3996 ∧ 0 ≤ u * (u * m0) := by rcases hu with rfl | rfl <;> omega
    have l2 : u * (u * m0) * coZ (witG T B n) n i i ≤ 3996 * 5982017994 := Int.mul_le_mul um.1 co.2 (by omega) (by omega)
    have l3 : c i * c i ≤ 3996 * 5982017994 := by omega
    refine ⟨Classical.byContradiction (fun q => ?_), Classical.byContradiction (fun q => ?_)⟩
    · have := Int.mul_le_mul (show 2147483647 ≤ -c i by omega) (show 2147483647 ≤ -c i by omega) (by omega) (by omega)
      rw [Int.neg_mul_neg] at this
      omega
    · have := Int.mul_le_mul (show 2147483647 ≤ c i by omega) (show 2147483647 ≤ c i by omega) (by omega) (by omega)
      omega
  -- steps have small coordinates
  have small : ∀ s, s < kk → ∃ (u : Int) (c : Nat → Int), (u = 1 ∨ u = 2) ∧ (∀ i, i < n → u * aC B n (X s) i = dtZ B n * c i) ∧ (∀ j, j < n → cmb B c n j = u * X s j) ∧ ∀ i, i < n → -1 ≤ c i ∧ c i ≤ 1 := fun s hs => by
    obtain ⟨u, c, hu, h1, h2⟩ := coords hn hT hB hm hmin hD (X s)
    refine ⟨u, c, hu, fun i hi => (h1 i hi).1, h2, fun i hi => ?_⟩
    have bx := hbox u c (X s) hu (hX s hs) h2 i hi
    obtain ⟨e1, e2⟩ := h1 i hi
    have ed : aC B n (X s) i = dtZ (fun a j => X (if a = i then s else σ a) j) n := by
      unfold aC
      rw [← dt_rpl hn hi]
      refine dtZ_congr hn (fun a j _ _ => ?_)
      unfold rpl
      by_cases y : a = i
      · rw [if_pos y, if_pos y]
      · rw [if_neg y, if_neg y, hBi]
    by_cases pd : (2147483647 : Int) ∣ aC B n (X s) i
    · have d1 : (2147483647 : Int) ∣ dtZ B n * c i := by
        rw [← e1]
        exact Int.dvd_mul_of_dvd_right pd
      rcases pr1.2 _ _ d1 with y | y
      · exact absurd y hpD
      · obtain ⟨k, hk⟩ := y
        omega
    · have mx := hmax (fun a => if a = i then s else σ a) (fun r hr => by
        split
        · exact hs
        · exact hσ r hr) (by rw [← ed]; exact pd)
      rw [← ed] at mx
      have D0 : 0 < (dtZ B n).natAbs := by omega
      have key : (u * aC B n (X s) i).natAbs = (dtZ B n).natAbs * (c i).natAbs := by rw [e1, Int.natAbs_mul]
      rw [Int.natAbs_mul] at key
      rcases hu with rfl | rfl
      · have h3 : (dtZ B n).natAbs * (c i).natAbs ≤ (dtZ B n).natAbs * 1 := by
          rw [← key]
          show 1 * _ ≤ _
          omega
        have := Nat.le_of_mul_le_mul_left h3 D0
        omega
      · have h3 : (dtZ B n).natAbs * (c i).natAbs ≤ (dtZ B n).natAbs * 2 := by
          rw [← key]
          show 2 * _ ≤ _
          omega
        have := Nat.le_of_mul_le_mul_left h3 D0
        have := e2 rfl
        omega
  intro f hfz
  have hF : ∀ s, s < kk → (2147483647 : Int) ∣ qB (frM n f) n (X s) (X s) := fun s hs => by
    rw [← frm_qB hn]
    exact hfz s hs
  have hdg : ∀ i, i < n → (2147483647 : Int) ∣ witG (frM n f) B n i i := fun i hi => by
    have := hF _ (hσ i hi)
    unfold witG
    rw [hBi i]
    exact this
  have k6 : n * (n - 1) / 2 ≤ 6 := by
    have : n = 1 ∨ n = 2 ∨ n = 3 ∨ n = 4 := by omega
    rcases this with rfl | rfl | rfl | rfl <;> decide
  have hgm := elim pr1 rfl (n * (n - 1) / 2) k6 (fun v => ∃ (s : Nat) (u : Int) (c : Nat → Int), s < kk ∧ (u = 1 ∨ u = 2) ∧ (∀ i, i < n → u * aC B n (X s) i = dtZ B n * c i) ∧ (∀ j, j < n → cmb B c n j = u * X s j) ∧ (∀ i, i < n → -1 ≤ c i ∧ c i ≤ 1) ∧ v = fun j => c (oA j) * c (oB j)) (fun v hv j hj => by
    obtain ⟨s, u, c, hs, hu, h1, h2, h3, rfl⟩ := hv
    obtain ⟨o1, o2, o3⟩ := o_rng' hn hj
    have r := mul_rng 1 (c (oA j)) (c (oB j)) (by omega) (h3 _ (by omega)) (h3 _ (by omega))
    dsimp only
    generalize c (oA j) * c (oB j) = z at *
    by_cases y : n * (n - 1) / 2 = 1
    · left
      refine ⟨y, ?_⟩
      by_cases w : z = 0
      · exact Or.inl w
      · refine Or.inr (fun ⟨k, hk⟩ => ?_)
        omega
    · right
      have : (1 : Int) ≤ mB (n * (n - 1) / 2) := by
        unfold mB
        repeat' split
        all_goals omega
      omega) (fun g hg => by
    have hz : ∀ y : Nat → Int, sumZ (fun j => g j * (aC B n y (oA j) * aC B n y (oB j))) (n * (n - 1) / 2) = 0 := by
      have q := quadZ hp'.1 hf (mtC n (fun r c => sumZ (fun j => g j * (coZ B n (oA j) r * coZ B n (oB j) c)) (n * (n - 1) / 2))) (fun s hs => by
        rw [mtC_qB hn, qB_outs (L := fun j r => coZ B n (oA j) r) (M := fun j r => coZ B n (oB j) r)]
        obtain ⟨u, c, hu, h1, h2, h3⟩ := small s hs
        have z := hg _ ⟨s, u, c, hs, hu, h1, h2, h3, rfl⟩
        have e : u * u * sumZ (fun j => g j * (aC B n (X s) (oA j) * aC B n (X s) (oB j))) (n * (n - 1) / 2) = dtZ B n * dtZ B n * lin (n * (n - 1) / 2) g (fun j => c (oA j) * c (oB j)) := by
          unfold lin
          rw [← sumZ_mul, ← sumZ_mul]
          refine sumZ_congr _ (fun j hj => ?_)
          obtain ⟨o1, o2, o3⟩ := o_rng' hn hj
          have a1 := h1 (oA j) (by omega)
          have a2 := h1 (oB j) o2
          have : u * u * (g j * (aC B n (X s) (oA j) * aC B n (X s) (oB j))) = g j * ((u * aC B n (X s) (oA j)) * (u * aC B n (X s) (oB j))) := by grind
          rw [this, a1, a2]
          grind
        rw [z, Int.mul_zero] at e
        rcases Int.mul_eq_zero.mp e with w | w
        · rcases hu with rfl | rfl <;> omega
        · exact w)
      intro y
      have e := mtC_qB hn (fun r c => sumZ (fun j => g j * (coZ B n (oA j) r * coZ B n (oB j) c)) (n * (n - 1) / 2)) y
      rw [qB_outs (L := fun j r => coZ B n (oA j) r) (M := fun j r => coZ B n (oB j) r)] at e
      have z : lin (n * (n + 1) / 2) (mtC n (fun r c => sumZ (fun j => g j * (coZ B n (oA j) r * coZ B n (oB j) c)) (n * (n - 1) / 2))) (fun j => y (prA n j) * y (prB n j)) = 0 := by
        unfold lin
        exact sumZ_zero (fun j hj => by rw [q j hj, Int.zero_mul])
      rw [z] at e
      exact e.symm
    intro j hj
    obtain ⟨o1, o2, o3⟩ := o_rng' hn hj
    have z := hz (cmb B (fun t => if t = oA j ∨ t = oB j then 1 else 0) n)
    rw [sumZ_one hj (fun t ht htj => by
      obtain ⟨p1, p2, p3⟩ := o_rng' hn ht
      rw [aC_cmb hn (by omega), aC_cmb hn p2]
      have nb := o_one ⟨t, p3⟩ ⟨j, o3⟩ (fun q => htj (congrArg Fin.val q))
      dsimp only at nb
      by_cases w : oA t = oA j ∨ oA t = oB j
      · rw [if_neg (fun w2 => nb ⟨w, w2⟩), Int.zero_mul, Int.mul_zero, Int.mul_zero]
      · rw [if_neg w, Int.zero_mul, Int.zero_mul, Int.mul_zero]), aC_cmb hn (by omega), aC_cmb hn o2] at z
    rw [if_pos (Or.inl rfl), if_pos (Or.inr rfl), Int.one_mul] at z
    rcases Int.mul_eq_zero.mp z with w | w
    · exact w
    · rcases Int.mul_eq_zero.mp w with w | w <;> exact absurd w hD) (fun j => witG (frM n f) B n (oA j) (oB j) + witG (frM n f) B n (oB j) (oA j)) (fun v hv => by
    obtain ⟨s, u, c, hs, hu, h1, h2, h3, rfl⟩ := hv
    have e := off hn (witG (frM n f) B n) c
    rw [← qB_wit, qB_congr (T' := frM n f) (x' := fun j => u * X s j) (y' := fun j => u * X s j) (fun _ _ _ _ => rfl) h2 h2, qB_mull, qB_mulr] at e
    have d1 : (2147483647 : Int) ∣ u * (u * qB (frM n f) n (X s) (X s)) := Int.dvd_mul_of_dvd_right (Int.dvd_mul_of_dvd_right (hF s hs))
    have d2 : (2147483647 : Int) ∣ sumZ (fun i => c i * c i * witG (frM n f) B n i i) n := sumZ_dvd n (fun i hi => Int.dvd_mul_of_dvd_right (hdg i hi))
    have e2 : lin (n * (n - 1) / 2) (fun j => witG (frM n f) B n (oA j) (oB j) + witG (frM n f) B n (oB j) (oA j)) (fun j => c (oA j) * c (oB j)) = u * (u * qB (frM n f) n (X s) (X s)) - sumZ (fun i => c i * c i * witG (frM n f) B n i i) n := by omega
    rw [e2]
    exact Int.dvd_sub d1 d2)
  have all : ∀ y : Nat → Int, (2147483647 : Int) ∣ qB (frM n f) n y y := fun y => by
    have e := off hn (witG (frM n f) B n) (aC B n y)
    rw [← qB_wit, qB_congr (T' := frM n f) (x' := fun j => dtZ B n * y j) (y' := fun j => dtZ B n * y j) (fun _ _ _ _ => rfl) (fun j hj => cmb_aC hn hj) (fun j hj => cmb_aC hn hj), qB_mull, qB_mulr] at e
    have d : (2147483647 : Int) ∣ dtZ B n * (dtZ B n * qB (frM n f) n y y) := by
      rw [e]
      refine Int.dvd_add (sumZ_dvd n (fun i hi => Int.dvd_mul_of_dvd_right (hdg i hi))) ?_
      unfold lin
      exact sumZ_dvd _ (fun j hj => Int.dvd_mul_of_dvd_left (hgm j hj))
    rcases pr1.2 _ _ d with w | w
    · exact absurd w hpD
    · rcases pr1.2 _ _ w with w | w
      · exact absurd w hpD
      · exact w
  have dia : ∀ i, i < n → (2147483647 : Int) ∣ f (prI n i i) := fun i hi => by
    have := all (eZ i)
    rw [qB_unit hi hi] at this
    unfold frM at this
    rw [if_pos (Nat.le_refl _)] at this
    exact this
  intro j hj
  obtain ⟨r1, r2⟩ := pr_rng hn hj
  have K10 : n * (n + 1) / 2 ≤ 10 := (pr_end n (by omega) 0 (by omega)).2.2.2
  have pI : ∀ (n : Fin 5) (j : Fin 10), j.val < n.val * (n.val + 1) / 2 → prI n.val (prA n.val j.val) (prB n.val j.val) = j.val := by decide
  have pj := pI ⟨n, by omega⟩ ⟨j, by omega⟩ hj
  dsimp only at pj
  by_cases w : prA n j = prB n j
  · have := dia _ r2
    rw [← w] at this pj
    rw [pj] at this
    exact this
  · have a := all (fun t => eZ (prA n j) t + eZ (prB n j) t)
    rw [qB_addl, qB_addr, qB_addr, qB_unit (by omega) (by omega), qB_unit (by omega) r2, qB_unit r2 (by omega), qB_unit r2 r2] at a
    unfold frM at a
    rw [if_pos (Nat.le_refl _), if_pos r1, if_neg (by omega), if_pos (Nat.le_refl _), pj] at a
    have d1 := dia _ (show prA n j < n by omega)
    have d2 := dia _ r2
    have e : f j = (f (prI n (prA n j) (prA n j)) + f j + (0 + f (prI n (prB n j) (prB n j)))) - f (prI n (prA n j) (prA n j)) - f (prI n (prB n j) (prB n j)) := by omega
    rw [e]
    exact Int.dvd_sub (Int.dvd_sub a d1) d2
