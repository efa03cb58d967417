/-! Rows nearest: what gatherNearest leaves, from its beginning. -/
theorem gnZ_spec {h : mv_M} {w a b n : Nat} {F : Nat → Nat → Int64} {qq : Int32} {p : Nat → Int} (hL : latOk n F) (ha : laIs h a n F) (hq1 : 1 ≤ qq.toInt ∧ qq.toInt ≤ 60) (hp : ∀ k, k < n → (h.2.1 (w + 3) k).toInt = p k ∧ bd (p k) 6000) :
    ((gnZ h w a qq).2.1 w 5).toInt = nGs (lT F) n qq.toInt p ∧ (gnZ h w a qq).1 w 6 = 0 ∧ (∀ o j, ¬ (o = w ∧ j = 6) → (gnZ h w a qq).1 o j = h.1 o j) ∧ (∀ o, o ≠ w → o ≠ w + 5 → (gnZ h w a qq).2.1 o = h.2.1 o) := by
  have n4 := hL.1.2
  have hqI : qq.toInt64.toInt = qq.toInt := Int32.toInt_toInt64 qq
  have nA : gn h (a + 1) = n := ha.1.1
  have two : (2 : Int64).toInt = 2 := by decide
  have z1 : ∀ k, k < n → (zFn h w qq.toInt64 n k).toInt = qq.toInt * nrd qq.toInt p k - p k := fun k hk => by
    obtain ⟨p1, p2⟩ := hp k hk
    unfold bd at p2
    have e1 : (2 * h.2.1 (w + 3) k).toInt = 2 * p k := by rw [i64_mul (by rw [two, p1]; omega) (by rw [two, p1]; omega), two, p1]
    have e2 : (2 * h.2.1 (w + 3) k + qq.toInt64).toInt = 2 * p k + qq.toInt := by rw [i64_add (by rw [e1, hqI]; omega) (by rw [e1, hqI]; omega), e1, hqI]
    have e3 : (2 * qq.toInt64).toInt = 2 * qq.toInt := by rw [i64_mul (by rw [two, hqI]; omega) (by rw [two, hqI]; omega), two, hqI]
    have e4 : (flO (2 * h.2.1 (w + 3) k + qq.toInt64) (2 * qq.toInt64)).toInt = nrd qq.toInt p k := by rw [flO_int (by rw [e3]; omega), e2, e3]; rfl
    have hb := nrd_bd (q := qq.toInt) (p := p) (by omega) k
    unfold bd at hb
    have e5 : (qq.toInt64 * flO (2 * h.2.1 (w + 3) k + qq.toInt64) (2 * qq.toInt64)).toInt = qq.toInt * nrd qq.toInt p k := by rw [i64_mul (by rw [hqI, e4]; omega) (by rw [hqI, e4]; omega), hqI, e4]
    unfold zFn
    rw [if_pos hk]
    unfold zRd
    rw [i64_sub (by rw [e5, p1]; omega) (by rw [e5, p1]; omega), e5, p1]
  have ln : ∀ i, i < n → lnB h (a + 1) (zFn h w qq.toInt64 n) (nI i) = Int64.ofInt (sumZ (fun k => lT F i k * (zFn h w qq.toInt64 n k).toInt) n) := fun i hi => by
    unfold lnB
    rw [nA, if_pos (inR_nI hi (by omega)), nI_clamp (by omega)]
    refine sumL_oI n (fun k hk => ?_)
    rw [ha.1.2 i k hi hk, Int64.ofInt_mul, ← oI]
    unfold lT
    rw [← oI]
  have nwb : w ≠ w + 5 := by omega
  refine ⟨?_, by simp [gnZ, mv_si], fun o j z => ?_, fun o z1 z2 => ?_⟩
  · have e : (gnZ h w a qq).2.1 w 5 = sumL (fun i => zFn h w qq.toInt64 n i * lnB h (a + 1) (zFn h w qq.toInt64 n) (nI i)) n := by
      unfold gnZ
      rw [nA]
      show (mv_sl _ w 5 _).2.1 w 5 = _
      rw [mv_sl_get]
    have e2 : sumL (fun i => zFn h w qq.toInt64 n i * lnB h (a + 1) (zFn h w qq.toInt64 n) (nI i)) n = Int64.ofInt (nGs (lT F) n qq.toInt p) := by
      unfold nGs qQ
      rw [qB_line]
      refine sumL_oI n (fun i hi => ?_)
      rw [ln i hi, Int64.ofInt_mul, ← z1 i hi, ← oI]
      congr 2
      exact sumZ_congr n (fun k hk => by rw [z1 k hk])
    have hb := nGs_bd (p := p) hL hq1
    rw [e, e2, oI_in (by omega) (by omega)]
  · unfold gnZ
    simp [mv_si, mv_sl, fillA, z]
  · unfold gnZ
    show (mv_sl _ w 5 _).2.1 o = _
    rw [mv_sl_ne z1, fillA_ne z2]
theorem gnO_spec {kd : List (Nat × Nat)} {h : mv_M} {w a b n : Nat} {F : Nat → Nat → Int64} {qq : Int32} {p : Nat → Int} (hw : swOk kd h w) (hla : laOk kd h a) (hb : boOk kd h b) (hL : latOk n F) (ha : laIs h a n F) (hq1 : 1 ≤ qq.toInt ∧ qq.toInt ≤ 60) (hp : ∀ k, k < n → (h.2.1 (w + 3) k).toInt = p k ∧ bd (p k) 6000) (hd : w + 6 ≤ b) (haw : a + 5 < w ∨ w + 5 < a) (hab : a + 5 < b ∨ b + 3 < a) :
    gnPre h w a qq b ∧ swFr w b h (gnO h w a qq b).2 ∧ swOk kd (gnO h w a qq b).2 w ∧ boOk kd (gnO h w a qq b).2 b ∧ ∃ R, bxR (lT F) n (nGs (lT F) n qq.toInt p) R ∧
      (((gnO h w a qq b).1 = -2 ∧ 300000 < prZ (nsp qq.toInt p R) n) ∨
       (prZ (nsp qq.toInt p R) n ≤ 300000 ∧ ∃ B, (∀ v, 0 ≤ v → v < prZ (nsp qq.toInt p R) n → B ≤ nqF (lT F) n qq.toInt p R v) ∧
        (((gnO h w a qq b).1 = -2 ∧ ∃ g : Nat → Int, (∀ i, i ≤ 100 → (0 ≤ g i ∧ g i < prZ (nsp qq.toInt p R) n) ∧ nqF (lT F) n qq.toInt p R (g i) = B) ∧ ∀ i j, i < j → j ≤ 100 → g i ≠ g j) ∨
         ∃ (c : Nat) (P : Nat → Int), 0 < c ∧ c ≤ 100 ∧ (gnO h w a qq b).1 = nI c ∧ isNr (nqF (lT F) n qq.toInt p R) (prZ (nsp qq.toInt p R) n) c P B ∧ bkL (gnO h w a qq b).2 b n (nlo qq.toInt p R) (nsp qq.toInt p R) (nqF (lT F) n qq.toInt p R) c P))) := by
  have n4 := hL.1.2
  have n1 := hL.1.1
  have hqI : qq.toInt64.toInt = qq.toInt := Int32.toInt_toInt64 qq
  obtain ⟨g5, g6, gi, gl⟩ := gnZ_spec (w := w) (b := b) hL ha hq1 hp
  obtain ⟨zw, za, zb⟩ := gnZ_ok (q := qq) hw hla hb
  have hGb := nGs_bd (p := p) hL hq1
  have gi1 : ∀ o, o ≠ w → (gnZ h w a qq).1 o = h.1 o := fun o ho => by
    funext j
    exact gi o j (by omega)
  have frZ : swFr w b h (gnZ h w a qq) := ⟨rfl, fun o h1 h2 => ⟨gi1 o (by omega), gl o (by omega) (by omega)⟩⟩
  have haZ : laIs (gnZ h w a qq) a n F := ha.same (gi1 _ (by omega)) (gl _ (by omega) (by omega)) (gi1 _ (by omega)) (gl _ (by omega) (by omega)) (gl _ (by omega) (by omega))
  have hpZ : ∀ k, k < n → ((gnZ h w a qq).2.1 (w + 3) k).toInt = p k ∧ bd (p k) 6000 := fun k hk => by rw [gl _ (by omega) (by omega)]; exact hp k hk
  obtain ⟨o1, o2, o3, o4⟩ := bgO_ok (q := qq) (bd := (gnZ h w a qq).2.1 w 5) zw za zb (show w ≠ a by omega) (show w + 1 ≠ a + 3 by omega)
  obtain ⟨fr, R, hR, hB, hcase⟩ := bgO_spec (v := (gnZ h w a qq).2.1 w 5) (S := nGs (lT F) n qq.toInt p) (qq := qq) (q := qq.toInt) (p := p) zw za zb hL haZ g5 hGb.1 hGb.2 hd haw hab hqI hq1 hpZ (fun R hR => nsp_pos hL hq1.1 hR)
  have eA : bgO (gnZ h w a qq) w a qq ((gnZ h w a qq).2.1 w 5) b = gnA h w a qq b := rfl
  rw [eA] at o1 o2 o3 o4 fr hcase
  rcases hcase with ⟨c1, c2⟩ | ⟨c1, c2, f, hf, hC, hV, hbc, hgP, hL5, hI6⟩
  · have eO : gnO h w a qq b = (-2, (gnA h w a qq b).2) := by unfold gnO; rw [if_pos c1]
    refine ⟨fun z => absurd c1 z, ?_⟩
    rw [eO]
    exact ⟨frZ.tr fr, o1, o2, R, hR, Or.inl ⟨rfl, c2⟩⟩
  · have nz : ¬ (gnA h w a qq b).1 = 0 := by rw [c1]; decide
    have eO : gnO h w a qq b = gnF w b (guP (gnA h w a qq b).2 w b).toInt.toNat (gnA h w a qq b).2 := by unfold gnO; rw [if_neg nz]
    have hsp : ∀ k, k < n → 0 < nsp qq.toInt p R k := fun k hk => (hB.2 k hk).2.2.1
    have hU0 := prZ_pos (sp := spF (nsp qq.toInt p R) f) n (fun k hk => by
      unfold spF
      split
      · omega
      · exact hsp k hk)
    have hUp := prZ_spF (sp := nsp qq.toInt p R) (f := f) n hf
    have hUb : prZ (spF (nsp qq.toInt p R) f) n ≤ 300000 := by
      have := Int.mul_le_mul_of_nonneg_left (show 1 ≤ nsp qq.toInt p R f by have := hsp f hf; omega) (show 0 ≤ prZ (spF (nsp qq.toInt p R) f) n by omega)
      omega
    have hx0 : ∀ k, k < n → k ≠ f → nlo qq.toInt p R k ≤ nlo qq.toInt p R k ∧ nlo qq.toInt p R k < nlo qq.toInt p R k + nsp qq.toInt p R k := fun k hk _ => ⟨Int.le_refl _, by have := hsp k hk; omega⟩
    have hp0 : pfX (nsp qq.toInt p R) (nlo qq.toInt p R) (nlo qq.toInt p R) f n = 0 := by
      have : ∀ m, plZ (spF (nsp qq.toInt p R) f) (nlo qq.toInt p R) (xF (nlo qq.toInt p R) (nlo qq.toInt p R) f) m = 0 := fun m => by
        induction m with
        | zero => rfl
        | succ m ihm =>
          show plZ _ _ _ m * _ + (xF (nlo qq.toInt p R) (nlo qq.toInt p R) f m - nlo qq.toInt p R m) = 0
          have : xF (nlo qq.toInt p R) (nlo qq.toInt p R) f m = nlo qq.toInt p R m := by unfold xF; split <;> rfl
          rw [ihm, this, Int.zero_mul]
          omega
      exact this n
    have hbx : ∀ x : Nat → Int, qQ (lT F) n (fun k => qq.toInt * x k - p k) ≤ nGs (lT F) n qq.toInt p → inBx (nsp qq.toInt p R) (nlo qq.toInt p R) x n := fun x hx => nbox hL hq1.1 hR hx
    have hZ : ∀ k, k < n → ∀ t, nlo qq.toInt p R k ≤ t → t < nlo qq.toInt p R k + nsp qq.toInt p R k → bd (qq.toInt * t - p k) 9000030 := fun k hk t h1 h2 => nzb hq1 (hp k hk).2 (hR k hk).1 (by have := prZ_ge n hsp k hk; omega) h1 h2
    have hI0 : nrI (gnA h w a qq b).2 w b (fun u => qQ (lT F) n (fun k => qq.toInt * unZ (nsp qq.toInt p R) (nlo qq.toInt p R) n u k - p k)) (nGs (lT F) n qq.toInt p) (fun v => (0 ≤ v ∧ v < prZ (nsp qq.toInt p R) n) ∧ pfP (nsp qq.toInt p R) (nlo qq.toInt p R) f n v < 0) (nGs (lT F) n qq.toInt p) := by
      have no : ∀ v, ¬ pfP (nsp qq.toInt p R) (nlo qq.toInt p R) f n v < 0 := fun v h2 => by
        have hin := unZ_in (lo := nlo qq.toInt p R) (p := v) hsp
        have := (pfX_rng (f := f) (fun k hk _ => hin k hk)).1
        unfold pfP at h2
        omega
      refine ⟨⟨by rw [hL5 5 (by omega)]; exact g5, Int.le_refl _⟩, fun v hv => absurd hv.2 (no v), Or.inl ⟨by rw [hI6 6 (by omega)]; exact g6, 0, fun _ => 0, by omega, ⟨hbc, fun j hj => by omega⟩, fun i hi => by omega, fun i j _ hj => by omega, fun v hv => absurd hv.1.2 (no v)⟩⟩
    have key := fun (m : Nat) (hm : m = (prZ (spF (nsp qq.toInt p R) f) n - 0).toNat) => gnF_spec (kd := kd) hL hB hd hf c2 hZ hGb hbx m 0 (gnA h w a qq b).2 (nlo qq.toInt p R) (nGs (lT F) n qq.toInt p) hm (by omega) (fun _ => hp0) o1 o2 hC hV hx0 hI0 (Or.inl rfl)
    obtain ⟨m, hm⟩ : ∃ m, m = (guP (gnA h w a qq b).2 w b).toInt.toNat := ⟨_, rfl⟩
    rw [← hm] at eO
    refine ⟨fun _ => by rw [hgP]; omega, ?_⟩
    obtain ⟨k2, k3, k4, B, katt, kmin, k5⟩ := key m (by rw [hm, hgP, Int.sub_zero])
    rw [← eO] at k2 k3 k4 k5
    refine ⟨(frZ.tr fr).tr k2, k3, k4, R, hR, Or.inr ⟨c2, B, kmin, ?_⟩⟩
    rcases k5 with ⟨e1, e2⟩ | ⟨c, P, e1, e2, e3, e4, e5⟩
    · exact Or.inl ⟨e1, e2⟩
    · refine Or.inr ⟨c, P, ?_, e2, e1, e3, e4.2.2.2.1, e4.2.2.2.2, e5⟩
      -- some row has the best size
      have ex : ∃ u, (0 ≤ u ∧ u < prZ (nsp qq.toInt p R) n) ∧ qQ (lT F) n (fun k => qq.toInt * unZ (nsp qq.toInt p R) (nlo qq.toInt p R) n u k - p k) = B := by
        rcases katt with z | z
        · have hin := hbx (nrd qq.toInt p) (Int.le_refl _)
          refine ⟨plZ (nsp qq.toInt p R) (nlo qq.toInt p R) (nrd qq.toInt p) n, plZ_rng n hin, ?_⟩
          rw [z]
          exact qQ_congr (fun k hk => by rw [unZ_pl hin hk])
        · exact z
      obtain ⟨u, hu1, hu2⟩ := ex
      obtain ⟨i, hi, -⟩ := (e3.2.2 u hu1.1 hu1.2).2 hu2
      omega
