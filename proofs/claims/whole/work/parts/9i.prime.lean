/-! Primes; rows in steps. -/
def isPr (p : Int) : Prop := 1 < p ∧ ∀ a b : Int, p ∣ a * b → p ∣ a ∨ p ∣ b
def ckI (p b : Nat) : Nat → Bool
  | 0 => true
  | n + 1 => (p % (b + 2 * n) != 0) && ckI p b n
def ckO (p : Nat) : Nat → Bool
  | 0 => true
  | n + 1 => ckI p (3 + 400 * n) 200 && ckO p n
theorem ckI_spec {p b : Nat} : ∀ n, ckI p b n = true → ∀ i, i < n → p % (b + 2 * i) ≠ 0
  | 0, _, i, hi => by omega
  | n + 1, h, i, hi => by
    unfold ckI at h
    rw [Bool.and_eq_true] at h
    by_cases e : i = n
    · rw [e]
      have := h.1
      simpa using this
    · exact ckI_spec n h.2 i (by omega)
theorem ckO_spec {p : Nat} : ∀ n, ckO p n = true → ∀ i, i < 200 * n → p % (3 + 2 * i) ≠ 0
  | 0, _, i, hi => by omega
  | n + 1, h, i, hi => by
    unfold ckO at h
    rw [Bool.and_eq_true] at h
    by_cases e : i < 200 * n
    · exact ckO_spec n h.2 i e
    · have := ckI_spec 200 h.1 (i - 200 * n) (by omega)
      rw [show 3 + 400 * n + 2 * (i - 200 * n) = 3 + 2 * i by omega] at this
      exact this
theorem pr_of {p : Nat} (h1 : 3 < p) (h2 : p % 2 = 1) (h3 : p < 46400 * 46400) (hc : ckO p 116 = true) : isPr p := by
  have nod : ∀ d, 2 ≤ d → d < 46400 → d < p → ¬ d ∣ p := fun d d1 d2 d3 hd => by
    by_cases e : d % 2 = 0
    · have : 2 ∣ p := Nat.dvd_trans (Nat.dvd_of_mod_eq_zero e) hd
      omega
    · have := ckO_spec 116 hc ((d - 3) / 2) (by omega)
      rw [show 3 + 2 * ((d - 3) / 2) = d by omega] at this
      exact this (Nat.mod_eq_zero_of_dvd hd)
  have nodv : ∀ g, g ∣ p → g = 1 ∨ g = p := fun g hg => by
    obtain ⟨k, hk⟩ := hg
    have gp : 0 < g := by
      rcases Nat.eq_zero_or_pos g with w | w
      · rw [w, Nat.zero_mul] at hk; omega
      · exact w
    have kp : 0 < k := by
      rcases Nat.eq_zero_or_pos k with w | w
      · rw [w, Nat.mul_zero] at hk; omega
      · exact w
    by_cases z1 : g = 1
    · exact Or.inl z1
    · by_cases z2 : k = 1
      · rw [z2, Nat.mul_one] at hk; exact Or.inr hk.symm
      · exfalso
        have gl : g < p := by
          rw [hk]
          have := Nat.mul_le_mul_left g (show 2 ≤ k by omega)
          omega
        have kl : k < p := by
          rw [hk]
          have := Nat.mul_le_mul_right k (show 2 ≤ g by omega)
          omega
        by_cases y : g < 46400
        · exact nod g (by omega) y gl ⟨k, hk⟩
        · by_cases y2 : k < 46400
          · exact nod k (by omega) y2 kl ⟨g, by rw [Nat.mul_comm]; exact hk⟩
          · have := Nat.mul_le_mul (show 46400 ≤ g by omega) (show 46400 ≤ k by omega)
            omega
  refine ⟨by omega, fun a b hab => ?_⟩
  have hn : p ∣ a.natAbs * b.natAbs := by
    obtain ⟨k, hk⟩ := hab
    refine ⟨k.natAbs, ?_⟩
    rw [← Int.natAbs_mul, hk, Int.natAbs_mul]
    rfl
  have back : ∀ x : Int, p ∣ x.natAbs → (p : Int) ∣ x := fun x hx => by
    obtain ⟨k, hk⟩ := hx
    have e : ((p * k : Nat) : Int) = (p : Int) * (k : Int) := by simp
    by_cases w : 0 ≤ x
    · refine ⟨(k : Int), ?_⟩
      rw [← e]
      omega
    · refine ⟨-(k : Int), ?_⟩
      rw [Int.mul_neg, ← e]
      omega
  rcases nodv (Nat.gcd p a.natAbs) (Nat.gcd_dvd_left _ _) with w | w
  · right
    have : p ∣ b.natAbs := Nat.Coprime.dvd_of_dvd_mul_left w hn
    exact back b this
  · left
    have : p ∣ a.natAbs := by rw [← w]; exact Nat.gcd_dvd_right _ _
    exact back a this
theorem pr_all14 : ∀ k : Fin 14, ckO (prP k.val).toInt.toNat 116 = true ∧ (prP k.val).toInt.toNat % 2 = 1 ∧ 3 < (prP k.val).toInt.toNat ∧ (prP k.val).toInt.toNat < 46400 * 46400 ∧ (prP k.val).toInt = (prP k.val).toInt.toNat ∧ (prP k.val).toInt < 2 ^ 31 := by decide +kernel
theorem prP_pr {k : Nat} (hk : k < 14) : isPr (prP k).toInt ∧ 3 < (prP k).toInt ∧ (prP k).toInt < 2 ^ 31 := by
  obtain ⟨a, b, c, d, e, f⟩ := pr_all14 ⟨k, hk⟩
  dsimp only at a b c d e f
  refine ⟨?_, by omega, f⟩
  rw [e]
  exact pr_of c b d a
/-! rows by a prime -/
def lin (K : Nat) (f v : Nat → Int) : Int := sumZ (fun j => f j * v j) K
theorem lin_up {K t : Nat} {f v : Nat → Int} {y : Int} (ht : t < K) : lin K (upZ f t y) v = lin K f v + (y - f t) * v t := by
  unfold lin
  refine sumZ_drop ht (fun j hj hne => ?_) ?_
  · unfold upZ
    rw [if_neg hne]
  · unfold upZ
    rw [if_pos rfl]
    grind
theorem lin_mul {K : Nat} {f v : Nat → Int} {c : Int} : lin K (fun j => c * f j) v = c * lin K f v := by
  unfold lin
  rw [← sumZ_mul]
  exact sumZ_congr K (fun j _ => by rw [Int.mul_assoc])
theorem sumZ_dvd {p : Int} {g : Nat → Int} : ∀ K, (∀ j, j < K → p ∣ g j) → p ∣ sumZ g K
  | 0, _ => ⟨0, by show (0 : Int) = p * 0; rw [Int.mul_zero]⟩
  | K + 1, h => Int.dvd_add (sumZ_dvd K (fun j hj => h j (by omega))) (h K (by omega))
theorem sumZ_dvd1 {p : Int} {g : Nat → Int} {K j0 : Nat} (hj : j0 < K) (h : ∀ j, j < K → j ≠ j0 → p ∣ g j) (hs : p ∣ sumZ g K) : p ∣ g j0 := by
  have e := sumZ_drop (f := fun j => if j = j0 then 0 else g j) (g := g) (d := g j0) hj (fun j _ hne => by rw [if_neg hne]) (by rw [if_pos rfl]; omega)
  have d1 : p ∣ sumZ (fun j => if j = j0 then 0 else g j) K := sumZ_dvd K (fun j hj => by
    by_cases z : j = j0
    · rw [if_pos z]; exact ⟨0, by rw [Int.mul_zero]⟩
    · rw [if_neg z]; exact h j hj z)
  have e2 : g j0 = sumZ g K - sumZ (fun j => if j = j0 then 0 else g j) K := by omega
  rw [e2]
  exact Int.dvd_sub hs d1
theorem miss {K kept : Nat} {lead : Nat → Nat} (h : kept < K) : ∃ j, j < K ∧ ∀ t, t < kept → lead t ≠ j := by
  refine Classical.byContradiction (fun w => ?_)
  have hx : ∀ j, j < K → ∃ t, t < kept ∧ lead t = j := fun j hj => Classical.byContradiction (fun q => w ⟨j, hj, fun t ht e => q ⟨t, ht, e⟩⟩)
  have hg : ∃ g : Nat → Nat, ∀ j, j < K → g j < kept ∧ lead (g j) = j := ⟨fun j => if hj : j < K then Classical.choose (hx j hj) else 0, fun j hj => by
    dsimp only
    rw [dif_pos hj]
    exact Classical.choose_spec (hx j hj)⟩
  obtain ⟨g, hg⟩ := hg
  obtain ⟨i, j, h1, h2, h3⟩ := pigeon kept g (fun i hi => (hg i (by omega)).1)
  have a := (hg i (by omega)).2
  have b := (hg j (by omega)).2
  rw [h3, b] at a
  omega
theorem hit {K : Nat} {lead : Nat → Nat} (hl : ∀ t, t < K → lead t < K) (hi : ∀ s t, s < t → t < K → lead s ≠ lead t) : ∀ j, j < K → ∃ t, t < K ∧ lead t = j := fun p hp => by
  refine Classical.byContradiction (fun w => ?_)
  obtain ⟨i, j, h1, h2, h3⟩ := pigeon (K - 1) (fun i => if lead i < p then lead i else lead i - 1) (fun i hi' => by
    have a := hl i (by omega)
    have b : lead i ≠ p := fun q => w ⟨i, by omega, q⟩
    split <;> omega)
  have a := hi i j h1 (by omega)
  have b : lead i ≠ p := fun q => w ⟨i, by omega, q⟩
  have c : lead j ≠ p := fun q => w ⟨j, by omega, q⟩
  split at h3 <;> split at h3 <;> omega
theorem ech_full {p : Int} (hp : isPr p) {K kept : Nat} {lead : Nat → Nat} {Tb : Nat → Nat → Int} (hl : ∀ t, t < kept → lead t < K) (hpiv : ∀ t, t < kept → ¬ p ∣ Tb t (lead t)) (hz : ∀ s t, s < t → t < kept → p ∣ Tb t (lead s)) (hk : kept ≤ K) : kept = K ↔ ∀ f : Nat → Int, (∀ t, t < kept → p ∣ lin K f (Tb t)) → ∀ j, j < K → p ∣ f j := by
  have inj : ∀ s t, s < t → t < kept → lead s ≠ lead t := fun s t hst ht e => hpiv t ht (by rw [← e]; exact hz s t hst ht)
  refine ⟨fun e f hf j hj => ?_, fun h => Classical.byContradiction (fun w => ?_)⟩
  · subst e
    have key : ∀ d t, t < kept → kept - t ≤ d → p ∣ f (lead t) := by
      intro d
      induction d with
      | zero => intro t ht hd; omega
      | succ d ih =>
        intro t ht hd
        have h1 : p ∣ f (lead t) * Tb t (lead t) := sumZ_dvd1 (g := fun j => f j * Tb t j) (hl t ht) (fun j hj hne => by
          obtain ⟨s, hs, e⟩ := hit hl inj j hj
          rcases Nat.lt_trichotomy s t with q | q | q
          · rw [← e]; exact Int.dvd_mul_of_dvd_right (hz s t q ht)
          · rw [q] at e; exact absurd e.symm hne
          · rw [← e]; exact Int.dvd_mul_of_dvd_left (ih s hs (by omega))) (hf t ht)
        exact (hp.2 _ _ h1).resolve_right (hpiv t ht)
    obtain ⟨t, ht, e⟩ := hit hl inj j hj
    rw [← e]
    exact key kept t ht (by omega)
  · obtain ⟨j0, hj0, hm⟩ := miss (lead := lead) (show kept < K by omega)
    have key : ∀ d, d ≤ kept → ∃ f : Nat → Int, (∀ s, kept - d ≤ s → s < kept → p ∣ lin K f (Tb s)) ∧ ¬ p ∣ f j0 := by
      intro d
      induction d with
      | zero =>
        intro _
        refine ⟨eZ j0, fun s h1 h2 => by omega, ?_⟩
        unfold eZ
        rw [if_pos rfl]
        intro q
        have := Int.le_of_dvd (by omega) q
        have := hp.1
        omega
      | succ d ih =>
        intro hd
        obtain ⟨f, f1, f2⟩ := ih (by omega)
        have ht : kept - (d + 1) < kept := by omega
        generalize htt : kept - (d + 1) = t at *
        have hlt := hl t ht
        refine ⟨upZ (fun j => Tb t (lead t) * f j) (lead t) (- lin K (upZ f (lead t) 0) (Tb t)), fun s h1 h2 => ?_, ?_⟩
        · rw [lin_up hlt, lin_mul, lin_up hlt]
          by_cases e : s = t
          · subst e
            refine ⟨0, ?_⟩
            grind
          · have a := f1 s (by omega) h2
            have b := hz t s (by omega) h2
            exact Int.dvd_add (Int.dvd_mul_of_dvd_right a) (Int.dvd_mul_of_dvd_right b)
        · have : upZ (fun j => Tb t (lead t) * f j) (lead t) (- lin K (upZ f (lead t) 0) (Tb t)) j0 = Tb t (lead t) * f j0 := if_neg (fun q => hm t ht q.symm)
          rw [this]
          intro q
          rcases hp.2 _ _ q with q | q
          · exact hpiv t ht q
          · exact f2 q
    obtain ⟨f, f1, f2⟩ := key kept (Nat.le_refl _)
    exact f2 (h f (fun t ht => f1 t (by omega) ht) j0 hj0)
theorem tri_full {p : Int} (hp : 1 < p) {K : Nat} {has : Nat → Prop} {B : Nat → Nat → Int} (h1 : ∀ c, c < K → has c → p ∣ B c c - 1) (h0 : ∀ c, c < K → has c → ∀ j, j < c → p ∣ B c j) : (∀ c, c < K → has c) ↔ ∀ f : Nat → Int, (∀ c, c < K → has c → p ∣ lin K f (B c)) → ∀ j, j < K → p ∣ f j := by
  refine ⟨fun hall f hf => ?_, fun h c0 hc0 => Classical.byContradiction (fun w => ?_)⟩
  · have key : ∀ d c, c < K → K - c ≤ d → p ∣ f c := by
      intro d
      induction d with
      | zero => intro c hc hd; omega
      | succ d ih =>
        intro c hc hd
        have q : p ∣ f c * B c c := sumZ_dvd1 (g := fun j => f j * B c j) hc (fun j hj hne => by
          rcases Nat.lt_or_gt_of_ne hne with y | y
          · exact Int.dvd_mul_of_dvd_right (h0 c hc (hall c hc) j y)
          · exact Int.dvd_mul_of_dvd_left (ih j hj (by omega))) (hf c hc (hall c hc))
        have e : f c = f c * B c c - f c * (B c c - 1) := by rw [Int.mul_sub]; omega
        rw [e]
        exact Int.dvd_sub q (Int.dvd_mul_of_dvd_right (h1 c hc (hall c hc)))
    exact fun j hj => key K j hj (by omega)
  · have key : ∀ d, d ≤ c0 → ∃ f : Nat → Int, (∀ j, c0 < j → f j = 0) ∧ f c0 = 1 ∧ (∀ j, j < c0 - d → f j = 0) ∧ ∀ c, c0 - d ≤ c → c < K → has c → p ∣ lin K f (B c) := by
      intro d
      induction d with
      | zero =>
        intro _
        refine ⟨eZ c0, fun j hj => if_neg (by omega), if_pos rfl, fun j hj => if_neg (by omega), fun c hc1 hc2 hc3 => ?_⟩
        have : c ≠ c0 := fun q => w (q ▸ hc3)
        unfold lin
        refine sumZ_dvd K (fun j hj => ?_)
        unfold eZ
        by_cases y : j = c0
        · exact Int.dvd_mul_of_dvd_right (h0 c hc2 hc3 j (by omega))
        · rw [if_neg y, Int.zero_mul]; exact ⟨0, by rw [Int.mul_zero]⟩
      | succ d ih =>
        intro hd
        obtain ⟨f, f1, f2, f3, f4⟩ := ih (by omega)
        generalize ht : c0 - (d + 1) = t at *
        have htK : t < K := by omega
        have ft : f t = 0 := f3 t (by omega)
        have step : ∀ y : Int, (has t → y = - lin K f (B t)) → ∃ f : Nat → Int, (∀ j, c0 < j → f j = 0) ∧ f c0 = 1 ∧ (∀ j, j < t → f j = 0) ∧ ∀ c, t ≤ c → c < K → has c → p ∣ lin K f (B c) := fun y hy => by
          refine ⟨upZ f t y, fun j hj => ?_, ?_, fun j hj => ?_, fun c hc1 hc2 hc3 => ?_⟩
          · unfold upZ
            rw [if_neg (by omega)]; exact f1 j hj
          · unfold upZ
            rw [if_neg (by omega)]; exact f2
          · unfold upZ
            rw [if_neg (by omega)]; exact f3 j (by omega)
          · rw [lin_up htK, ft]
            by_cases e : c = t
            · subst e
              rw [hy hc3]
              have e2 : lin K f (B c) + (- lin K f (B c) - 0) * B c c = - (lin K f (B c) * (B c c - 1)) := by grind
              rw [e2]
              exact Int.dvd_neg.mpr (Int.dvd_mul_of_dvd_right (h1 c hc2 hc3))
            · exact Int.dvd_add (f4 c (by omega) hc2 hc3) (Int.dvd_mul_of_dvd_right (h0 c hc2 hc3 t (by omega)))
        by_cases hh : has t
        · exact step (- lin K f (B t)) (fun _ => rfl)
        · exact step 0 (fun q => absurd q hh)
    obtain ⟨f, f1, f2, f3, f4⟩ := key c0 (Nat.le_refl _)
    have := h f (fun c hc hh => f4 c (by omega) hc hh) c0 hc0
    rw [f2] at this
    have := Int.le_of_dvd (by omega) this
    omega
