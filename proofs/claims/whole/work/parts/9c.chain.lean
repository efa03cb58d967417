/-! Shortening: the form stays a lattice's; the chain of steps ends. -/
def eZ (r : Nat) : Nat → Int := fun j => if j = r then 1 else 0
theorem qB_unit {T : Nat → Nat → Int} {n r c : Nat} (hr : r < n) (hc : c < n) : qB T n (eZ r) (eZ c) = T r c := by
  rw [qB_line, sumZ_one hr (fun j _ hj => by unfold eZ; rw [if_neg hj, Int.zero_mul])]
  unfold eZ
  rw [if_pos rfl, Int.one_mul, sumZ_one hc (fun j _ hj => by rw [if_neg hj, Int.mul_zero]), if_pos rfl, Int.mul_one]
def rowU (i k : Nat) (t : Int) (r : Nat) : Nat → Int := fun j => if r = i then eZ i j + (-t) * eZ k j else eZ r j
theorem qB_rowU {T : Nat → Nat → Int} {n i k r c : Nat} {t : Int} (hi : i < n) (hk : k < n) (hr : r < n) (hc : c < n) : qB T n (rowU i k t r) (rowU i k t c) = (if r = i then (if c = i then T i i - t * T i k - t * T k i + t * t * T k k else T i c - t * T k c) else (if c = i then T r i - t * T r k else T r c)) := by
  have e1 : ∀ x, qB T n (rowU i k t i) x = qB T n (eZ i) x + (-t) * qB T n (eZ k) x := fun x => by
    have : rowU i k t i = fun j => eZ i j + (-t) * eZ k j := by
      funext j
      unfold rowU
      rw [if_pos rfl]
    rw [this, qB_addl, qB_mull]
  have e2 : ∀ x, qB T n x (rowU i k t i) = qB T n x (eZ i) + (-t) * qB T n x (eZ k) := fun x => by
    have : rowU i k t i = fun j => eZ i j + (-t) * eZ k j := by
      funext j
      unfold rowU
      rw [if_pos rfl]
    rw [this, qB_addr, qB_mulr]
  have e3 : ∀ r, r ≠ i → rowU i k t r = eZ r := fun r hr => by
    funext j
    unfold rowU
    rw [if_neg hr]
  by_cases z1 : r = i
  · subst z1
    rw [if_pos rfl]
    by_cases z2 : c = r
    · subst z2
      rw [if_pos rfl, e1, e2, e2, qB_unit hi hi, qB_unit hi hk, qB_unit hk hi, qB_unit hk hk]
      grind
    · rw [if_neg z2, e3 c z2, e1, qB_unit hi hc, qB_unit hk hc]
      grind
  · rw [if_neg z1, e3 r z1]
    by_cases z2 : c = i
    · subst z2
      rw [if_pos rfl, e2, qB_unit hr hi, qB_unit hr hk]
      grind
    · rw [if_neg z2, e3 c z2, qB_unit hr hc]
def trZ (n : Nat) (F : Nat → Nat → Int64) : Int := sumZ (fun i => (F i i).toInt) n
theorem sumZ_drop {f g : Nat → Int} {n i : Nat} {d : Int} : (hi : i < n) → (∀ j, j < n → j ≠ i → g j = f j) → g i = f i + d → sumZ g n = sumZ f n + d := fun hi h e => by
  induction n with
  | zero => omega
  | succ n ih =>
    show sumZ g n + g n = sumZ f n + f n + d
    by_cases z : i = n
    · subst z
      rw [e, sumZ_congr (g := f) i (fun j hj => h j (by omega) (by omega))]
      omega
    · rw [ih (by omega) (fun j hj hne => h j (by omega) hne), h n (by omega) (fun w => z w.symm)]
      omega
theorem stP_lat {n : Nat} {F : Nat → Nat → Int64} {i k : Nat} (h : latOk n F) (hi : i < n) (hk : k < n) (hne : i ≠ k) (hz : ¬ stT F i k = 0) : latOk n (stP F i k (stT F i k) n) ∧ trZ n (stP F i k (stT F i k) n) + 1 ≤ trZ n F := by
  obtain ⟨tb, tn⟩ := stT_facts h hi hk
  have tn := tn hz
  generalize ht : stT F i k = t at *
  have ex : ∀ r c, r < n → c < n → (stP F i k t n r c).toInt = if r = i then (if c = i then lT F i i - t.toInt * lT F i k - t.toInt * lT F k i + t.toInt * t.toInt * lT F k k else lT F i c - t.toInt * lT F k c) else (if c = i then lT F r i - t.toInt * lT F r k else lT F r c) := fun r c hr hc => by
    have sy := fun a b ha hb => h.2.2.1 a b ha hb
    have hb1 : ∀ a b, a < n → b < n → bd (lT F a b) 999 := h.2.1
    have sub1 : ∀ a b d e, a < n → b < n → d < n → e < n → (F a b - t * F d e).toInt = lT F a b - t.toInt * lT F d e := fun a b d e ha hb' hd he => by
      have q1 := tb.mul (hb1 d e hd he)
      have q2 := hb1 a b ha hb'
      unfold bd lT at q1 q2
      have m1 : (t * F d e).toInt = t.toInt * (F d e).toInt := i64_mul (by omega) (by omega)
      unfold lT
      rw [i64_sub (by rw [m1]; omega) (by rw [m1]; omega), m1]
    unfold stP
    by_cases z1 : r = i
    · subst z1
      by_cases z2 : c = r
      · subst z2
        rw [if_pos ⟨rfl, rfl⟩, if_pos rfl, if_pos rfl]
        have two : (2 : Int64).toInt = 2 := by decide
        have q1 := tb.mul (hb1 k k hk hk)
        have q2 := hb1 c k hi hk
        have q3 := hb1 c c hi hi
        have q4 := tb.mul ((tb.mul (hb1 k k hk hk)).sub ((show bd (2 : Int) 2 by unfold bd; omega).mul q2))
        unfold bd lT at q1 q2 q3 q4
        have m1 : (t * F k k).toInt = t.toInt * (F k k).toInt := i64_mul (by omega) (by omega)
        have m2 : (2 * F c k).toInt = 2 * (F c k).toInt := by rw [i64_mul (by rw [two]; omega) (by rw [two]; omega), two]
        have m3 : (t * F k k - 2 * F c k).toInt = t.toInt * (F k k).toInt - 2 * (F c k).toInt := by rw [i64_sub (by rw [m1, m2]; omega) (by rw [m1, m2]; omega), m1, m2]
        have m4 : (t * (t * F k k - 2 * F c k)).toInt = t.toInt * (t.toInt * (F k k).toInt - 2 * (F c k).toInt) := by rw [i64_mul (by rw [m3]; omega) (by rw [m3]; omega), m3]
        rw [i64_add (by rw [m4]; omega) (by rw [m4]; omega), m4, sy k c hk hi]
        unfold lT
        grind
      · rw [if_neg (fun q => z2 q.2), if_pos ⟨rfl, hc⟩, if_pos rfl, if_neg z2]
        exact sub1 _ _ _ _ hi hc hk hc
    · rw [if_neg (fun q => z1 q.1), if_neg (fun q => z1 q.1), if_neg z1]
      by_cases z2 : c = i
      · subst z2
        rw [if_pos ⟨rfl, hr⟩, if_pos rfl, sub1 _ _ _ _ hi hr hk hr, sy c r hi hr, sy k r hk hr]
      · rw [if_neg (fun q => z2 q.1), if_neg z2]
        rfl
  have pd : qPD (lT (stP F i k t n)) n := by
    refine h.2.2.turn (U := rowU i k t.toInt) (V := fun _ _ => 0) (fun r c hr hc => ?_) (fun x hx r hr => ?_)
    · show (stP F i k t n r c).toInt = _
      rw [ex r c hr hc, qB_rowU hi hk hr hc]
    · -- the change of rows can be undone
      have ev : ∀ j, j < n → sumZ (fun r => x r * rowU i k t.toInt r j) n = x j - (if j = k then t.toInt * x i else 0) := fun j hj => by
        have e : ∀ r, r < n → x r * rowU i k t.toInt r j = (if r = j then x j else 0) + (if r = i then (if j = k then - (t.toInt * x i) else 0) else 0) := fun r hr => by
          unfold rowU eZ
          by_cases y1 : r = i
          · subst y1
            by_cases y2 : j = r
            · subst y2
              have y3 : ¬ j = k := hne
              simp [y3]
            · by_cases y4 : j = k
              · have y5 : ¬ r = j := fun w => y2 w.symm
                simp [y2, y4, y5]
                have y6 : ¬ k = r := fun w => hne w.symm
                simp [y6, hne]
                grind
              · have y5 : ¬ r = j := fun w => y2 w.symm
                simp [y2, y4, y5]
          · by_cases y2 : j = r
            · subst y2
              simp [y1]
            · have y5 : ¬ r = j := fun w => y2 w.symm
              simp [y1, y2, y5]
        rw [sumZ_congr n e, sumZ_add, sumZ_one hj (fun a _ ha => if_neg ha), sumZ_one hi (fun a _ ha => if_neg ha), if_pos rfl, if_pos rfl]
        by_cases y : j = k
        · rw [if_pos y, if_pos y]; omega
        · rw [if_neg y, if_neg y]; omega
      have xi : x i = 0 := by
        have := hx i hi
        rw [ev i hi, if_neg hne] at this
        omega
      have := hx r hr
      rw [ev r hr, xi] at this
      simp at this
      exact this
  have dg : ∀ r, r < n → 0 < (stP F i k t n r r).toInt ∧ (stP F i k t n r r).toInt ≤ 999 := fun r hr => by
    refine ⟨pd.diag hr, ?_⟩
    rw [ex r r hr hr]
    have b := (h.2.1 r r hr hr).2
    by_cases z1 : r = i
    · subst z1
      rw [if_pos rfl, if_pos rfl, h.2.2.1 k r hk hr]
      unfold lT
      have : (F r r).toInt - t.toInt * (F r k).toInt - t.toInt * (F r k).toInt + t.toInt * t.toInt * (F k k).toInt = (F r r).toInt + (t.toInt * t.toInt * (F k k).toInt - 2 * t.toInt * (F r k).toInt) := by grind
      omega
    · rw [if_neg z1, if_neg z1]
      exact b
  refine ⟨⟨h.1, fun r c hr hc => ?_, pd⟩, ?_⟩
  · have cs := pd.cs (eZ r) (eZ c)
    unfold qQ at cs
    rw [qB_unit hr hc, qB_unit hr hr, qB_unit hc hc] at cs
    have d1 := dg r hr
    have d2 := dg c hc
    have m : lT (stP F i k t n) r r * lT (stP F i k t n) c c ≤ 999 * 999 := Int.mul_le_mul d1.2 d2.2 (by have := d2.1; unfold lT; omega) (by omega)
    show bd (lT (stP F i k t n) r c) 999
    generalize lT (stP F i k t n) r c = y at *
    have hy : y * y ≤ 999 * 999 := by omega
    unfold bd
    refine ⟨?_, ?_⟩
    · refine Classical.byContradiction (fun w => ?_)
      have := sq_lt (a := 999) (b := -y) (by omega) (by omega)
      rw [Int.neg_mul_neg] at this
      omega
    · refine Classical.byContradiction (fun w => ?_)
      have := sq_lt (a := 999) (b := y) (by omega) (by omega)
      omega
  · have := sumZ_drop (f := fun j => (F j j).toInt) (g := fun j => (stP F i k t n j j).toInt) (d := t.toInt * t.toInt * (F k k).toInt - 2 * t.toInt * (F i k).toInt) hi (fun j hj hji => by
      rw [ex j j hj hj, if_neg hji, if_neg hji]
      rfl) (by
      rw [ex i i hi hi, if_pos rfl, if_pos rfl, h.2.2.1 k i hk hi]
      unfold lT
      grind)
    unfold trZ
    omega
theorem stCh_lat {n : Nat} : ∀ (m : Nat) (x y : mFW), latOk n x.1 → stCh n m x y → latOk n y.1 ∧ trZ n y.1 + m ≤ trZ n x.1
  | 0, x, y, h, e => by
    have : y = x := e
    rw [this]
    exact ⟨h, by omega⟩
  | m + 1, x, y, h, e => by
    obtain ⟨z, e1, i, j, ⟨⟨a1, a2, a3⟩, a4, -⟩, rfl⟩ := e
    obtain ⟨l1, l2⟩ := stCh_lat m x z h e1
    obtain ⟨p1, p2⟩ := stP_lat l1 a1 a2 a3 a4
    refine ⟨p1, ?_⟩
    show trZ n (stP z.1 i j (stT z.1 i j) n) + ((m + 1 : Nat) : Int) ≤ trZ n x.1
    omega
theorem trZ_bd {n : Nat} {F : Nat → Nat → Int64} (h : latOk n F) : 0 < trZ n F ∧ trZ n F ≤ 3996 := by
  have n1 := h.1
  have b := sum_bd4 (A := 999) h.1.2 (by omega) (fun i hi => h.2.1 i i hi hi)
  refine ⟨?_, b.2⟩
  have pos : ∀ m, m ≤ n → (0 < m → 0 < sumZ (fun i => (F i i).toInt) m) ∧ 0 ≤ sumZ (fun i => (F i i).toInt) m := by
    intro m
    induction m with
    | zero => intro _; exact ⟨fun w => by omega, by show (0 : Int) ≤ 0; omega⟩
    | succ m ih =>
      intro hm
      have := (ih (by omega)).2
      have d : 0 < (F m m).toInt := h.2.2.diag (by omega)
      have e : sumZ (fun i => (F i i).toInt) (m + 1) = sumZ (fun i => (F i i).toInt) m + (F m m).toInt := rfl
      rw [e]
      exact ⟨fun _ => by omega, by omega⟩
  exact (pos n (Nat.le_refl n)).1 (by omega)
theorem stFin_of {n : Nat} {x : mFW} (h : latOk n x.1) : stFin n x := by
  refine ⟨3996, fun k y e => ?_⟩
  obtain ⟨l1, l2⟩ := stCh_lat k x y h e
  have b1 := trZ_bd l1
  have b2 := trZ_bd h
  refine ⟨by omega, fun i hi q => ?_⟩
  have p : 0 < (y.1 i i).toInt := l1.2.2.diag hi
  have b := (l1.2.1 i i hi hi).2
  have two : (2 : Int64).toInt = 2 := by decide
  have zero : (0 : Int64).toInt = 0 := by decide
  have := congrArg Int64.toInt q
  rw [i64_mul (by rw [two]; omega) (by rw [two]; omega), two, zero] at this
  omega
theorem stAt_uniq {n : Nat} {F : Nat → Nat → Int64} {i k i' k' : Nat} (h : stAt n F i k) (h' : stAt n F i' k') : i = i' ∧ k = k' := by
  obtain ⟨⟨a1, a2, a3⟩, a4, a5⟩ := h
  obtain ⟨⟨b1, b2, b3⟩, b4, b5⟩ := h'
  by_cases z : i < i' ∨ (i = i' ∧ k < k')
  · exact absurd (b5 i k a1 a2 a3 z) a4
  · by_cases w : i' < i ∨ (i' = i ∧ k' < k)
    · exact absurd (a5 i' k' b1 b2 b3 w) b4
    · omega
theorem stCh_uniq {n : Nat} : ∀ (m : Nat) (x y y' : mFW), stCh n m x y → stCh n m x y' → y = y'
  | 0, x, y, y', e, e' => by
    rw [show y = x from e, show y' = x from e']
  | m + 1, x, y, y', e, e' => by
    obtain ⟨z, e1, i, j, a, rfl⟩ := e
    obtain ⟨z', e1', i', j', a', rfl⟩ := e'
    have := stCh_uniq m x z z' e1 e1'
    subst this
    obtain ⟨rfl, rfl⟩ := stAt_uniq a a'
    rfl
theorem stCh_pre {n : Nat} : ∀ (k m : Nat) (x y : mFW), stCh n (m + 1 + k) x y → ∃ z, stCh n m x z ∧ ∃ i j, stAt n z.1 i j
  | 0, m, x, y, e => by
    obtain ⟨z, e1, i, j, a, -⟩ := e
    exact ⟨z, e1, i, j, a⟩
  | k + 1, m, x, y, e => by
    obtain ⟨z, e1, -⟩ := e
    exact stCh_pre k m x z e1
theorem stCh_end {n m k : Nat} {x y y' : mFW} (e : stCh n m x y) (h : stNo n y.1) (e' : stCh n k x y') (h' : stNo n y'.1) : y = y' := by
  rcases Nat.lt_trichotomy m k with w | w | w
  · obtain ⟨z, e1, i, j, a⟩ := stCh_pre (k - m - 1) m x y' (by rw [show m + 1 + (k - m - 1) = k by omega]; exact e')
    rw [stCh_uniq m x y z e e1] at h
    exact absurd (h i j a.1.1 a.1.2.1 a.1.2.2) a.2.1
  · subst w
    exact stCh_uniq m x y y' e e'
  · obtain ⟨z, e1, i, j, a⟩ := stCh_pre (m - k - 1) k x y (by rw [show k + 1 + (m - k - 1) = m by omega]; exact e)
    rw [stCh_uniq k x y' z e' e1] at h'
    exact absurd (h' i j a.1.1 a.1.2.1 a.1.2.2) a.2.1
