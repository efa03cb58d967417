/-! The reference: all rows of a box. -/
def fdL (n : Nat) (sp lo : Nat → Int) (q : Int → Int) (A : Nat → Nat → Int64) (c : Nat) (P : Nat → Int) : Prop := (∀ j, j < c → (A 8 j).toInt = q (P j)) ∧ ∀ j, j < c → ∀ k, k < 4 → (A 7 (4 * j + k)).toInt = if k < n then unZ sp lo n (P j) k else 0
def putA (A : Nat → Nat → Int64) (n c : Nat) (z : Int64) : Nat → Nat → Int64 := setA (setA A 8 (upL (psF (A 8) c (pnF (A 8) z c)) (pnF (A 8) z c) z)) 7 (frN (A 7) (A 11) n c (pnF (A 8) z c) 4)
theorem moPut_fd {h : mv_M} {m n c : Nat} {A : Nat → Nat → Int64} {z : Int64} (hc : c < 2 ^ 31) : moPut (fdW h m A (nI c)) m n z = fdW h m (putA A n c z) (nI (c + 1)) := by
  have e1 : moFc (fdW h m A (nI c)) m = c := by
    unfold moFc
    rw [fdW_c, nI_clamp hc]
  unfold moPut moPp
  rw [e1, fdW_at (k := 8) rfl, fdW_at (k := 7) rfl, fdW_at (k := 11) rfl, fdW_fill (k := 8) rfl, fdW_fill (k := 7) rfl, fdW_si]
  rfl
theorem fdL.put {n c : Nat} {sp lo : Nat → Int} {q : Int → Int} {A : Nat → Nat → Int64} {P : Nat → Int} {u : Int} {z : Int64} (h : fdL n sp lo q A c P) (hz : z.toInt = q u) (hn : ∀ k, k < n → (A 11 k).toInt = unZ sp lo n u k) : fdL n sp lo q (putA A n c z) (c + 1) (insP P (pnF (A 8) z c) u) := by
  have hp := pnF_le (A 8) z c
  generalize hP : pnF (A 8) z c = p at hp
  have e8 : putA A n c z 8 = upL (psF (A 8) c p) p z := by rw [← hP]; rfl
  have e7 : putA A n c z 7 = frN (A 7) (A 11) n c p 4 := by rw [← hP]; rfl
  refine ⟨fun j hj => ?_, fun j hj k hk => ?_⟩
  · rw [e8]
    unfold upL insP
    by_cases w : j = p
    · subst w
      rw [if_pos rfl, if_neg (by omega), if_pos rfl, hz]
    · rw [if_neg w]
      by_cases y : j < p
      · rw [if_pos y]
        unfold psF
        rw [if_neg (by omega)]
        exact h.1 j (by omega)
      · rw [if_neg y, if_neg w]
        unfold psF
        rw [if_pos (by omega)]
        exact h.1 (j - 1) (by omega)
  · rw [e7]
    unfold frN insP
    by_cases w : j = p
    · subst w
      have eu : (if j < j then P j else if j = j then u else P (j - 1)) = u := by simp
      rw [eu, if_pos (by omega), show 4 * j + k - 4 * j = k by omega]
      unfold nwF
      by_cases y : k < n
      · rw [if_pos y, if_pos y]
        exact hn k y
      · rw [if_neg y, if_neg y]
        rfl
    · rw [if_neg (by omega)]
      unfold frS
      by_cases y : j < p
      · rw [if_neg (by omega), if_pos y]
        exact h.2 j (by omega) k hk
      · rw [if_pos (by omega), if_neg y, if_neg w, show 4 * j + k - 4 = 4 * (j - 1) + k by omega]
        exact h.2 (j - 1) (by omega) k hk
/-- sizes are those of the form -/
theorem mtF_oI (h : mv_M) (m l : Nat) (x y : Nat → Int64) (n : Nat) : mtF h m l x y n = Int64.ofInt (qB (lT (aT h (m + 2) (16 * l))) n (aZ x) (aZ y)) := by
  unfold mtF qB
  refine sumL_oI n (fun i _ => sumL_oI n (fun j _ => ?_))
  rw [Int64.ofInt_mul, Int64.ofInt_mul]
  unfold lT aZ
  rw [← oI, ← oI, ← oI]
theorem qB_bd {T : Nat → Nat → Int} {n : Nat} {x y : Nat → Int} {X Y : Int} (hT : ∀ i j, i < n → j < n → bd (T i j) 999) (hx : ∀ i, i < n → bd (x i) X) (hy : ∀ i, i < n → bd (y i) Y) : bd (qB T n x y) (n * (n * (X * 999 * Y))) :=
  bd.sum n (fun i hi => bd.sum n (fun j hj => ((hx i hi).mul (hT i j hi hj)).mul (hy j hj)))
/-- box by its reaches -/
def bxR (T : Nat → Nat → Int) (n : Nat) (S : Int) (R : Nat → Int) : Prop := ∀ i, i < n → isRt (S * coZ T n i i / dtZ T n) (R i)
def bsp (R : Nat → Int) : Nat → Int := fun k => 2 * R k + 1
def blo (R : Nat → Int) : Nat → Int := fun k => - R k
def bqF (T : Nat → Nat → Int) (n : Nat) (R : Nat → Int) (p : Int) : Int := qQ T n (unZ (bsp R) (blo R) n p)
theorem itM_spec {hi lo : Nat → Int64} {sp : Nat → Int} : ∀ (n : Nat), (∀ k, k < n → sp k = (hi k).toInt - (lo k).toInt + 1 ∧ 0 < sp k ∧ sp k < 2 ^ 40) → (∀ i, i < n → ¬ 300000 < itM hi lo (i + 1)) → (itM hi lo n).toInt = prZ sp n ∧ prZ sp n ≤ 300000
  | 0, _, _ => ⟨by show (1 : Int64).toInt = 1; decide, by unfold prZ; omega⟩
  | n + 1, h, hs => by
    obtain ⟨i1, i2⟩ := itM_spec n (fun k hk => h k (by omega)) (fun i hi => hs i (by omega))
    obtain ⟨e, p, b⟩ := h n (by omega)
    have hw := hs n (by omega)
    have one : (1 : Int64).toInt = 1 := by decide
    have big : (300000 : Int64).toInt = 300000 := by decide
    have hpp := prZ_pos (sp := sp) n (fun k hk => (h k (by omega)).2.1)
    have h1 := i64_rng (hi n)
    have h2 := i64_rng (lo n)
    have hsub : (hi n - lo n).toInt = (hi n).toInt - (lo n).toInt := i64_sub (by omega) (by omega)
    have hspan : (hi n - lo n + 1).toInt = sp n := by
      rw [i64_add (by rw [hsub, one]; omega) (by rw [hsub, one]; omega), hsub, one, e]
    unfold itM at hw ⊢
    by_cases z : 300000 < hi n - lo n + 1
    · rw [if_pos z] at hw
      exact absurd (by decide) hw
    · rw [if_neg z] at hw ⊢
      have hm0 : 0 ≤ prZ sp n * sp n := Int.mul_nonneg (by omega) (by omega)
      have hm1 : prZ sp n * sp n ≤ 300000 * sp n := Int.mul_le_mul_of_nonneg_right i2 (by omega)
      have hm : (itM hi lo n * (hi n - lo n + 1)).toInt = prZ sp n * sp n := by
        rw [i64_mul (by rw [i1, hspan]; omega) (by rw [i1, hspan]; omega), i1, hspan]
      rw [i64_lt, big, hm] at hw
      exact ⟨hm, by show prZ sp n * sp n ≤ 300000; omega⟩
theorem prZ_mono {sp : Nat → Int} {n : Nat} (h : ∀ k, k < n → 0 < sp k) : ∀ i, i ≤ n → prZ sp i ≤ prZ sp n := by
  intro i hi
  induction n with
  | zero =>
    obtain rfl : i = 0 := by omega
    exact Int.le_refl _
  | succ n ih =>
    by_cases e : i = n + 1
    · rw [e]; exact Int.le_refl _
    · have h1 := ih (fun k hk => h k (by omega)) (by omega)
      have h2 := prZ_pos (sp := sp) n (fun k hk => h k (by omega))
      have h3 := h n (by omega)
      have : prZ sp n * 1 ≤ prZ sp n * sp n := Int.mul_le_mul_of_nonneg_left (by omega) (by omega)
      show prZ sp i ≤ prZ sp n * sp n
      omega
theorem itM_big {hi lo : Nat → Int64} {sp : Nat → Int} {n i : Nat} (h : ∀ k, k < n → sp k = (hi k).toInt - (lo k).toInt + 1 ∧ 0 < sp k ∧ sp k < 2 ^ 40) (hi' : i < n) (hb : 300000 < itM hi lo (i + 1)) : 300000 < prZ sp n := by
  have hpos : ∀ k, k < n → 0 < sp k := fun k hk => (h k hk).2.1
  refine Classical.byContradiction (fun z => ?_)
  have hall : ∀ j, j ≤ n → ∀ k, k < j → ¬ 300000 < itM hi lo (k + 1) := by
    intro j
    induction j with
    | zero => intro _ k hk; omega
    | succ j ih =>
      intro hj k hk
      by_cases e : k = j
      · subst e
        obtain ⟨a, b⟩ := itM_spec (sp := sp) k (fun k' hk' => h k' (by omega)) (ih (by omega))
        obtain ⟨e1, p, bb⟩ := h k (by omega)
        have one : (1 : Int64).toInt = 1 := by decide
        have big : (300000 : Int64).toInt = 300000 := by decide
        have h1 := i64_rng (hi k)
        have h2 := i64_rng (lo k)
        have hsub : (hi k - lo k).toInt = (hi k).toInt - (lo k).toInt := i64_sub (by omega) (by omega)
        have hspan : (hi k - lo k + 1).toInt = sp k := by
          rw [i64_add (by rw [hsub, one]; omega) (by rw [hsub, one]; omega), hsub, one, e1]
        have hge := prZ_ge n hpos k (by omega)
        have hmo : prZ sp k * sp k ≤ prZ sp n := prZ_mono hpos (k + 1) (by omega)
        have hpp := prZ_pos (sp := sp) k (fun k' hk' => hpos k' (by omega))
        have hm0 : 0 ≤ prZ sp k * sp k := Int.mul_nonneg (by omega) (by omega)
        unfold itM
        rw [if_neg (by rw [i64_lt, big, hspan]; omega)]
        have hm : (itM hi lo k * (hi k - lo k + 1)).toInt = prZ sp k * sp k := by
          rw [i64_mul (by rw [a, hspan]; omega) (by rw [a, hspan]; omega), a, hspan]
        rw [i64_lt, big, hm]
        omega
      · exact ih (by omega) k (by omega)
  exact hall n (Nat.le_refl _) i hi' hb
