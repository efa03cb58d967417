/-! The reference's count of tables by a prime, by meaning. -/
theorem mdF_int {v p : Int64} (hp : 0 < p.toInt) : (mdF v p).toInt = v.toInt % p.toInt := by
  have z0 : (0 : Int64).toInt = 0 := by decide
  have hx := i64_rng v
  have hyr := i64_rng p
  unfold mdF
  by_cases hs : 0 ≤ v.toInt
  · have r := lrm_int (x := v) hs hp
    have h0 := Int.emod_nonneg v.toInt (show p.toInt ≠ 0 by omega)
    rw [if_neg (by rw [i64_lt, r, z0]; omega), r]
  · have hq : (v / p).toInt = - ((- v.toInt) / p.toInt) := by
      rw [Int64.toInt_div]
      have e : v.toInt.tdiv p.toInt = - ((- v.toInt) / p.toInt) := by
        have : v.toInt.tdiv p.toInt = - ((- v.toInt).tdiv p.toInt) := by rw [Int.neg_tdiv]; omega
        rw [this, Int.tdiv_eq_ediv_of_nonneg (by omega)]
      rw [e]
      have h1 := Int.ediv_le_self p.toInt (show 0 ≤ - v.toInt by omega)
      have h2 : 0 ≤ (- v.toInt) / p.toInt := Int.ediv_nonneg (by omega) (by omega)
      apply Int.bmod_eq_of_le <;> omega
    have hm := Int.emod_add_mul_ediv (- v.toInt) p.toInt
    have hm0 := Int.emod_nonneg (- v.toInt) (show p.toInt ≠ 0 by omega)
    have hm1 := Int.emod_lt_of_pos (- v.toInt) hp
    have h2 : 0 ≤ (- v.toInt) / p.toInt := Int.ediv_nonneg (by omega) (by omega)
    have h3 : 0 ≤ p.toInt * ((- v.toInt) / p.toInt) := Int.mul_nonneg (by omega) h2
    have hpp : (v / p * p).toInt = - (p.toInt * ((- v.toInt) / p.toInt)) := by
      have e : (v / p).toInt * p.toInt = - (p.toInt * ((- v.toInt) / p.toInt)) := by rw [hq, Int.neg_mul, Int.mul_comm]
      rw [i64_mul (by rw [e]; omega) (by rw [e]; omega), e]
    have hd : (lrm v p).toInt = - ((- v.toInt) % p.toInt) := by
      unfold lrm
      rw [i64_sub (by rw [hpp]; omega) (by rw [hpp]; omega), hpp]
      omega
    by_cases z : (- v.toInt) % p.toInt = 0
    · rw [if_neg (by rw [i64_lt, hd, z0]; omega), hd, z]
      have e := ((Int.ediv_emod_unique (a := v.toInt) (q := - ((- v.toInt) / p.toInt)) (r := 0) hp).mpr ⟨by rw [Int.mul_neg]; omega, by omega, hp⟩).2
      omega
    · rw [if_pos (by rw [i64_lt, hd, z0]; omega), i64_add (by rw [hd]; omega) (by rw [hd]; omega), hd]
      have e := ((Int.ediv_emod_unique (a := v.toInt) (q := - ((- v.toInt) / p.toInt) - 1) (r := p.toInt - (- v.toInt) % p.toInt) hp).mpr ⟨by rw [Int.mul_sub, Int.mul_neg, Int.mul_one]; omega, by omega, by omega⟩).2
      omega
/-- the reference's base by columns -/
def joB (p : Int) (K : Nat) (x : jSt) : Prop := ∀ c, c < K → ¬ x.2.2 c = 0 → (x.2.1 (10 * c + c)).toInt = 1 ∧ (∀ j, j < c → (x.2.1 (10 * c + j)).toInt = 0) ∧ ∀ j, j < K → 0 ≤ (x.2.1 (10 * c + j)).toInt ∧ (x.2.1 (10 * c + j)).toInt < p
def joK (p : Int) (K : Nat) (x : jSt) (f : Nat → Int) : Prop := ∀ c, c < K → ¬ x.2.2 c = 0 → p ∣ lin K f (fun j => (x.2.1 (10 * c + j)).toInt)
theorem joF_spec {p : Int64} (hp : isPr p.toInt) (hp3 : 3 < p.toInt) (hp2 : p.toInt < 2 ^ 31) {K : Nat} (hK : K ≤ 10) : ∀ (m c : Nat) (x : jSt), c + m = K → joB p.toInt K x → (∀ j, j < K → 0 ≤ (x.1 j).toInt ∧ (x.1 j).toInt < p.toInt) → (∀ j, j < c → x.1 j = 0) →
    joB p.toInt K (joF p K m c x).2 ∧ (((joF p K m c x).1 = 0 ∧ (joF p K m c x).2.2 = x.2 ∧ ∀ f, joK p.toInt K x f → p.toInt ∣ lin K f (fun j => (x.1 j).toInt)) ∨ ((joF p K m c x).1 = 1 ∧ ∃ c1, c1 < K ∧ x.2.2 c1 = 0 ∧ (joF p K m c x).2.2.2 = upI x.2.2 c1 1 ∧ ∀ f, joK p.toInt K (joF p K m c x).2 f ↔ joK p.toInt K x f ∧ p.toInt ∣ lin K f (fun j => (x.1 j).toInt)))
  | 0, c, x, hc, hB, hL, hz => by
    refine ⟨hB, Or.inl ⟨rfl, rfl, fun f _ => ⟨0, ?_⟩⟩⟩
    rw [Int.mul_zero]
    unfold lin
    exact sumZ_zero (fun j hj => by
      dsimp only
      rw [hz j (by omega)]
      show f j * 0 = 0
      rw [Int.mul_zero])
  | m + 1, c, x, hc, hB, hL, hz => by
    have z0 : (0 : Int64).toInt = 0 := by decide
    unfold joF
    by_cases y1 : x.1 c = 0
    · rw [if_pos y1]
      exact joF_spec hp hp3 hp2 hK m (c + 1) x (by omega) hB hL (fun j hj => by
        by_cases y : j = c
        · rw [y]; exact y1
        · exact hz j (by omega))
    · rw [if_neg y1]
      have hLc := hL c (by omega)
      have nz : (x.1 c).toInt ≠ 0 := fun q => y1 (i64_32 (by rw [q, z0]))
      by_cases y2 : x.2.2 c = 0
      · rw [if_pos y2]
        obtain ⟨v1, v2⟩ := inv_spec hp hp3 hp2 (x := x.1 c) (by omega)
        generalize hv : ivF p 63 (p - 2) 1 (x.1 c) = V at *
        have row : ∀ j, j < K → (bsF p V K c x.1 x.2.1 K (10 * c + j)).toInt = ((x.1 j).toInt * V.toInt) % p.toInt := fun j hj => by
          unfold bsF
          rw [if_pos (by omega), show 10 * c + j - 10 * c = j by omega]
          have a := hL j hj
          have bb := (show bd (x.1 j).toInt (2 ^ 31) by unfold bd; omega).mul (show bd V.toInt (2 ^ 31) by unfold bd; omega)
          have nn : 0 ≤ (x.1 j).toInt * V.toInt := Int.mul_nonneg a.1 v1.1
          unfold bd at bb
          have m1 : (x.1 j * V).toInt = (x.1 j).toInt * V.toInt := i64_mul (by omega) (by omega)
          rw [lrm_int (by rw [m1]; exact nn) (by omega), m1]
        have old : ∀ d j, d ≠ c → j < K → d < K → bsF p V K c x.1 x.2.1 K (10 * d + j) = x.2.1 (10 * d + j) := fun d j hd hj hdK => by
          unfold bsF
          rw [if_neg (by omega)]
        have Hc : ∀ d, upI x.2.2 c 1 d = if d = c then 1 else x.2.2 d := fun d => rfl
        have rc1 : (bsF p V K c x.1 x.2.1 K (10 * c + c)).toInt = 1 := by
          rw [row c (by omega)]
          obtain ⟨k, hk⟩ := v2
          have e : (x.1 c).toInt * V.toInt = 1 + p.toInt * k := by omega
          rw [e, Int.add_mul_emod_self_left, Int.emod_eq_of_lt (by omega) (by omega)]
        refine ⟨fun d hd hh => ?_, Or.inr ⟨rfl, c, by omega, y2, rfl, fun f => ?_⟩⟩
        · show (bsF p V K c x.1 x.2.1 K (10 * d + d)).toInt = 1 ∧ (∀ j, j < d → (bsF p V K c x.1 x.2.1 K (10 * d + j)).toInt = 0) ∧ ∀ j, j < K → 0 ≤ (bsF p V K c x.1 x.2.1 K (10 * d + j)).toInt ∧ (bsF p V K c x.1 x.2.1 K (10 * d + j)).toInt < p.toInt
          by_cases y : d = c
          · subst y
            refine ⟨rc1, fun j hj => ?_, fun j hj => ?_⟩
            · rw [row j (by omega), hz j hj, z0, Int.zero_mul]
              rfl
            · rw [row j hj]
              exact ⟨Int.emod_nonneg _ (by omega), Int.emod_lt_of_pos _ (by omega)⟩
          · have hh' : ¬ x.2.2 d = 0 := by
              have : upI x.2.2 c 1 d = x.2.2 d := if_neg y
              rw [← this]; exact hh
            obtain ⟨b1, b2, b3⟩ := hB d hd hh'
            refine ⟨by rw [old d d y hd hd]; exact b1, fun j hj => by rw [old d j y (by omega) hd]; exact b2 j hj, fun j hj => by rw [old d j y hj hd]; exact b3 j hj⟩
        · have e1 : p.toInt ∣ lin K f (fun j => (bsF p V K c x.1 x.2.1 K (10 * c + j)).toInt) ↔ p.toInt ∣ lin K f (fun j => (x.1 j).toInt) := by
            have a := lin_emod (p := p.toInt) (K := K) (f := f) (v := fun j => (x.1 j).toInt * V.toInt - (x.1 j).toInt * 0) (w := fun j => (bsF p V K c x.1 x.2.1 K (10 * c + j)).toInt) (fun j hj => by
              rw [row j hj, Int.mul_zero, Int.sub_zero]
              exact emod_dvd _ _)
            rw [← a, lin_lc, Int.mul_zero, Int.sub_zero]
            refine ⟨fun q => (hp.2 _ _ q).resolve_right (fun w => ?_), fun q => Int.dvd_mul_of_dvd_left q⟩
            have := Int.dvd_sub (Int.dvd_mul_of_dvd_right (b := (x.1 c).toInt) w) v2
            have e3 : (x.1 c).toInt * V.toInt - ((x.1 c).toInt * V.toInt - 1) = 1 := by omega
            rw [e3] at this
            have := Int.le_of_dvd (by omega) this
            omega
          refine ⟨fun h => ⟨fun d hd hh => ?_, ?_⟩, fun ⟨h1, h2⟩ d hd hh => ?_⟩
          · have y : d ≠ c := fun q => hh (by rw [q]; exact y2)
            have := h d hd (by show ¬ upI x.2.2 c 1 d = 0; rw [Hc, if_neg y]; exact hh)
            have e : lin K f (fun j => (x.2.1 (10 * d + j)).toInt) = lin K f (fun j => (bsF p V K c x.1 x.2.1 K (10 * d + j)).toInt) := by
              unfold lin
              exact sumZ_congr K (fun j hj => by dsimp only; rw [old d j y hj hd])
            rw [e]; exact this
          · have := h c (by omega) (by show ¬ upI x.2.2 c 1 c = 0; rw [Hc, if_pos rfl]; decide)
            exact e1.mp this
          · show p.toInt ∣ lin K f (fun j => (bsF p V K c x.1 x.2.1 K (10 * d + j)).toInt)
            by_cases y : d = c
            · rw [y]; exact e1.mpr h2
            · have hh' : ¬ x.2.2 d = 0 := by
                have : upI x.2.2 c 1 d = x.2.2 d := if_neg y
                rw [← this]; exact hh
              have e : lin K f (fun j => (bsF p V K c x.1 x.2.1 K (10 * d + j)).toInt) = lin K f (fun j => (x.2.1 (10 * d + j)).toInt) := by
                unfold lin
                exact sumZ_congr K (fun j hj => by dsimp only; rw [old d j y hj hd])
              rw [e]; exact h1 d hd hh'
      · rw [if_neg y2]
        obtain ⟨b1, b2, b3⟩ := hB c (by omega) y2
        have new : ∀ j, j < K → (skF2 p (x.1 c) c x.1 x.2.1 K j).toInt = if c ≤ j then ((x.1 j).toInt - ((x.1 c).toInt * (x.2.1 (10 * c + j)).toInt) % p.toInt) % p.toInt else (x.1 j).toInt := fun j hj => by
          unfold skF2
          by_cases y : c ≤ j
          · rw [if_pos ⟨y, hj⟩, if_pos y]
            have a := b3 j hj
            have a2 := hL j hj
            have bb := (show bd (x.1 c).toInt (2 ^ 31) by unfold bd; omega).mul (show bd (x.2.1 (10 * c + j)).toInt (2 ^ 31) by unfold bd; omega)
            have nn : 0 ≤ (x.1 c).toInt * (x.2.1 (10 * c + j)).toInt := Int.mul_nonneg hLc.1 a.1
            unfold bd at bb
            have m1 : (x.1 c * x.2.1 (10 * c + j)).toInt = (x.1 c).toInt * (x.2.1 (10 * c + j)).toInt := i64_mul (by omega) (by omega)
            have m2 : (lrm (x.1 c * x.2.1 (10 * c + j)) p).toInt = ((x.1 c).toInt * (x.2.1 (10 * c + j)).toInt) % p.toInt := by rw [lrm_int (by rw [m1]; exact nn) (by omega), m1]
            have h1 := Int.emod_nonneg ((x.1 c).toInt * (x.2.1 (10 * c + j)).toInt) (show p.toInt ≠ 0 by omega)
            have h2 := Int.emod_lt_of_pos ((x.1 c).toInt * (x.2.1 (10 * c + j)).toInt) (show 0 < p.toInt by omega)
            rw [mdF_int (by omega), i64_sub (by rw [m2]; omega) (by rw [m2]; omega), m2]
          · rw [if_neg (fun q => y q.1), if_neg y]
        have hL' : ∀ j, j < K → 0 ≤ (skF2 p (x.1 c) c x.1 x.2.1 K j).toInt ∧ (skF2 p (x.1 c) c x.1 x.2.1 K j).toInt < p.toInt := fun j hj => by
          rw [new j hj]
          split
          · exact ⟨Int.emod_nonneg _ (by omega), Int.emod_lt_of_pos _ (by omega)⟩
          · exact hL j hj
        have hz' : ∀ j, j < c + 1 → skF2 p (x.1 c) c x.1 x.2.1 K j = 0 := fun j hj => by
          refine i64_32 ?_
          rw [new j (by omega), z0]
          by_cases y : j = c
          · subst y
            rw [if_pos (Nat.le_refl _), b1, Int.mul_one, Int.emod_eq_of_lt hLc.1 hLc.2]
            have : (x.1 j).toInt - (x.1 j).toInt = 0 := by omega
            rw [this]
            rfl
          · rw [if_neg (by omega), hz j (by omega), z0]
        have hrec := joF_spec hp hp3 hp2 hK m (c + 1) (skF2 p (x.1 c) c x.1 x.2.1 K, x.2) (by omega) hB hL' hz'
        -- the same for the line as it was
        have same : ∀ f, joK p.toInt K x f → (p.toInt ∣ lin K f (fun j => (skF2 p (x.1 c) c x.1 x.2.1 K j).toInt) ↔ p.toInt ∣ lin K f (fun j => (x.1 j).toInt)) := fun f hf => by
          have a := lin_emod (p := p.toInt) (K := K) (f := f) (v := fun j => (x.1 j).toInt * 1 - (x.2.1 (10 * c + j)).toInt * (x.1 c).toInt) (w := fun j => (skF2 p (x.1 c) c x.1 x.2.1 K j).toInt) (fun j hj => by
            rw [new j hj]
            by_cases y : c ≤ j
            · rw [if_pos y]
              have d1 := emod_dvd ((x.1 j).toInt - ((x.1 c).toInt * (x.2.1 (10 * c + j)).toInt) % p.toInt) p.toInt
              have d2 := emod_dvd ((x.1 c).toInt * (x.2.1 (10 * c + j)).toInt) p.toInt
              have d3 := Int.dvd_sub d1 d2
              have e : (x.1 j).toInt - ((x.1 c).toInt * (x.2.1 (10 * c + j)).toInt) % p.toInt - ((x.1 j).toInt - ((x.1 c).toInt * (x.2.1 (10 * c + j)).toInt) % p.toInt) % p.toInt - ((x.1 c).toInt * (x.2.1 (10 * c + j)).toInt - ((x.1 c).toInt * (x.2.1 (10 * c + j)).toInt) % p.toInt) = (x.1 j).toInt * 1 - (x.2.1 (10 * c + j)).toInt * (x.1 c).toInt - ((x.1 j).toInt - ((x.1 c).toInt * (x.2.1 (10 * c + j)).toInt) % p.toInt) % p.toInt := by
                rw [Int.mul_one, Int.mul_comm (x.2.1 (10 * c + j)).toInt]
                omega
              rw [← e]; exact d3
            · rw [if_neg y, b2 j (by omega), Int.zero_mul, Int.mul_one]
              exact ⟨0, by rw [Int.mul_zero]; omega⟩)
          rw [← a, lin_lc, Int.mul_one]
          have hT := hf c (by omega) y2
          refine ⟨fun q => ?_, fun q => Int.dvd_sub q (Int.dvd_mul_of_dvd_left hT)⟩
          have e : lin K f (fun j => (x.1 j).toInt) = (lin K f (fun j => (x.1 j).toInt) - lin K f (fun j => (x.2.1 (10 * c + j)).toInt) * (x.1 c).toInt) + lin K f (fun j => (x.2.1 (10 * c + j)).toInt) * (x.1 c).toInt := by omega
          rw [e]
          exact Int.dvd_add q (Int.dvd_mul_of_dvd_left hT)
        obtain ⟨r1, r2⟩ := hrec
        refine ⟨r1, ?_⟩
        rcases r2 with ⟨q1, q2, q3⟩ | ⟨q1, c1, q2, q3, q4, q5⟩
        · exact Or.inl ⟨q1, q2, fun f hf => (same f hf).mp (q3 f hf)⟩
        · refine Or.inr ⟨q1, c1, q2, q3, q4, fun f => ?_⟩
          rw [q5 f]
          exact ⟨fun ⟨h1, h2⟩ => ⟨h1, (same f h1).mp h2⟩, fun ⟨h1, h2⟩ => ⟨h1, (same f h1).mpr h2⟩⟩
def cntH (H : Nat → Int32) : Nat → Nat
  | 0 => 0
  | k + 1 => cntH H k + (if H k = 0 then 0 else 1)
theorem cntH_le (H : Nat → Int32) : ∀ K, cntH H K ≤ K
  | 0 => Nat.le_refl _
  | K + 1 => by
    have := cntH_le H K
    unfold cntH
    split <;> omega
theorem cntH_all (H : Nat → Int32) : ∀ K, cntH H K = K ↔ ∀ c, c < K → ¬ H c = 0
  | 0 => ⟨fun _ c hc => by omega, fun _ => rfl⟩
  | K + 1 => by
    have ih := cntH_all H K
    have le := cntH_le H K
    unfold cntH
    refine ⟨fun e c hc => ?_, fun h => ?_⟩
    · by_cases z : H K = 0
      · rw [if_pos z] at e; omega
      · rw [if_neg z] at e
        by_cases y : c = K
        · rw [y]; exact z
        · exact ih.mp (by omega) c (by omega)
    · rw [if_neg (h K (by omega)), ih.mpr (fun c hc => h c (by omega))]
theorem cntH_up {H : Nat → Int32} {c : Nat} (hc : H c = 0) : ∀ K, c < K → cntH (upI H c 1) K = cntH H K + 1
  | 0, h => by omega
  | K + 1, h => by
    have other : ∀ m, m ≤ c → cntH (upI H c 1) m = cntH H m := fun m hm => by
      induction m with
      | zero => rfl
      | succ m ih =>
        unfold cntH
        rw [ih (by omega)]
        have : upI H c 1 m = H m := if_neg (by omega)
        rw [this]
    unfold cntH
    by_cases y : c = K
    · subst y
      have : upI H c 1 c = 1 := if_pos rfl
      rw [other c (Nat.le_refl _), this, hc, if_neg (by decide), if_pos rfl]
    · have : upI H c 1 K = H K := if_neg (by omega)
      rw [cntH_up hc K (by omega), this]
      omega
