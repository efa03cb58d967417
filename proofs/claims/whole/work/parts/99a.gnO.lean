/-! Rows nearest: what gatherNearest leaves. -/
theorem gnF_spec {kd : List (Nat × Nat)} {w b n f : Nat} {F : Nat → Nat → Int64} {q S0 : Int} {p lo sp : Nat → Int}
    (hL : latOk n F) (hB : swB n q p lo sp) (hd : w + 6 ≤ b) (hf : f < n) (hN : prZ sp n ≤ 300000) (hZ : ∀ k, k < n → ∀ t, lo k ≤ t → t < lo k + sp k → bd (q * t - p k) 9000030) (hS : 0 ≤ S0 ∧ S0 ≤ 16000000)
    (hbx : ∀ x : Nat → Int, qQ (lT F) n (fun k => q * x k - p k) ≤ S0 → inBx sp lo x n) :
    ∀ (m : Nat) (u : Int) (M : mv_M) (x : Nat → Int) (B : Int), m = (prZ (spF sp f) n - u).toNat → u ≤ prZ (spF sp f) n → (0 < m → pfX sp lo x f n = u) → swOk kd M w → boOk kd M b → swC M w b n F q p lo sp f → swV M w n q p f x → (∀ k, k < n → k ≠ f → lo k ≤ x k ∧ x k < lo k + sp k) → nrI M w b (fun u => qQ (lT F) n (fun k => q * unZ sp lo n u k - p k)) S0 (fun v => (0 ≤ v ∧ v < prZ sp n) ∧ pfP sp lo f n v < u) B → (B = S0 ∨ ∃ u, (0 ≤ u ∧ u < prZ sp n) ∧ qQ (lT F) n (fun k => q * unZ sp lo n u k - p k) = B) →
      swFr w b M (gnF w b m M).2 ∧ swOk kd (gnF w b m M).2 w ∧ boOk kd (gnF w b m M).2 b ∧ ∃ B', (B' = S0 ∨ ∃ u, (0 ≤ u ∧ u < prZ sp n) ∧ qQ (lT F) n (fun k => q * unZ sp lo n u k - p k) = B') ∧ (∀ v, 0 ≤ v → v < prZ sp n → B' ≤ qQ (lT F) n (fun k => q * unZ sp lo n v k - p k)) ∧
        (((gnF w b m M).1 = -2 ∧ ∃ g : Nat → Int, (∀ i, i ≤ 100 → (0 ≤ g i ∧ g i < prZ sp n) ∧ qQ (lT F) n (fun k => q * unZ sp lo n (g i) k - p k) = B') ∧ ∀ i j, i < j → j ≤ 100 → g i ≠ g j) ∨ ∃ (c : Nat) (P : Nat → Int), (gnF w b m M).1 = nI c ∧ c ≤ 100 ∧ isNr (fun u => qQ (lT F) n (fun k => q * unZ sp lo n u k - p k)) (prZ sp n) c P B' ∧ swC (gnF w b m M).2 w b n F q p lo sp f ∧ bkS (gnF w b m M).2 b c (fun u => qQ (lT F) n (fun k => q * unZ sp lo n u k - p k)) P) := by
  have hsp : ∀ k, k < n → 0 < sp k := fun k hk => (hB.2 k hk).2.2.1
  have n4 := hL.1.2
  intro m
  induction m with
  | zero =>
    intro u M x B hm hu hpx hw hb hC hV hx hI hatt
    have eu : u = prZ (spF sp f) n := by omega
    have all : ∀ v, pfP sp lo f n v < u := fun v => by
      have hin := unZ_in (lo := lo) (p := v) hsp
      have := (pfX_rng (f := f) (fun k hk _ => hin k hk)).2
      rw [eu]
      exact this
    obtain ⟨a1, a2, a4⟩ := hI
    have hB' : ∀ v, 0 ≤ v → v < prZ sp n → B ≤ qQ (lT F) n (fun k => q * unZ sp lo n v k - p k) := fun v h0 h1 => a2 v ⟨⟨h0, h1⟩, all v⟩
    rcases a4 with ⟨q1, c, P, q2, q3, q4⟩ | ⟨q1, q2, g, q3, q4⟩
    · have bcM : bc M b = c := q3.1
      have hcol2 : coll (fun v => (0 ≤ v ∧ v < prZ sp n) ∧ qQ (lT F) n (fun k => q * unZ sp lo n v k - p k) = B) c P := q4.congr (fun v => ⟨fun z => ⟨z.1.1, z.2⟩, fun z => ⟨⟨z.1, all v⟩, z.2⟩⟩)
      obtain ⟨so1, so2⟩ := srF_spec (n := c) (by omega) (M.2.1 (b + 3))
      obtain ⟨P', r1, r2⟩ := hcol2.sortedN (q := fun u => qQ (lT F) n (fun k => q * unZ sp lo n u k - p k)) q3.2 so1 so2 hB'
      have eg : gnF w b 0 M = (M.1 b 1, boFill M b (srF c (M.2.1 (b + 3)))) := by
        show (if M.1 w 6 = 0 then (M.1 b 1, boFill M b (srF (bc M b) (M.2.1 (b + 3)))) else (-2, M)) = _
        rw [if_pos q1, bcM]
      rw [eg]
      have nf : ∀ (g : Nat → Int64) o, o ≠ b + 3 → (boFill M b g).2.1 o = M.2.1 o := fun g o ho => by
        funext j
        simp [boFill, ho]
      refine ⟨⟨rfl, fun o h1 h2 => ⟨rfl, nf _ o (by omega)⟩⟩, hw.same rfl rfl, boFill_ok _ hb, B, hatt, hB', Or.inr ⟨c, P', ?_, q2, r1, ?_, ?_, fun j hj => ?_⟩⟩
      · show M.1 b 1 = nI c
        rw [hb.2.2.2.2.2.2.2.2.2.1, bcM]
      · exact hC.same rfl (nf _ _ (by omega)) rfl rfl (by show (boFill M b _).2.1 w 2 = _; rw [nf _ _ (by omega)]) (nf _ _ (by omega)) rfl (nf _ _ (by omega)) (nf _ _ (by omega))
      · exact bcM
      · show ((boFill M b (srF c (M.2.1 (b + 3)))).2.1 (b + 3) j).toInt = _
        rw [boFill_k]
        exact r2 j hj
    · have eg : gnF w b 0 M = (-2, M) := by
        show (if M.1 w 6 = 0 then (M.1 b 1, boFill M b (srF (bc M b) (M.2.1 (b + 3)))) else (-2, M)) = _
        rw [if_neg (by rw [q1]; decide)]
      rw [eg]
      exact ⟨swFr.rf w b M, hw, hb, B, hatt, hB', Or.inl ⟨rfl, g, fun i hi => ⟨(q3 i hi).1.1, (q3 i hi).2⟩, q4⟩⟩
  | succ m ih =>
    intro u M x B hm hu hpx hw hb hC hV hx hI hatt
    have hpu := hpx (by omega)
    subst hpu
    have hU := (pfX_rng hx).2
    have hm1 : m = (prZ (spF sp f) n - (pfX sp lo x f n + 1)).toNat := by clear hatt hI; omega
    have hm2 : pfX sp lo x f n + 1 ≤ prZ (spF sp f) n := by clear hatt hI; omega
    obtain ⟨d1, d2, d3, d4, d5, B', d6, d7⟩ := gnS_spec hL hB hd hf hN hZ hS hbx hx hw hb hC hV hI hatt
    have eg : gnF w b (m + 1) M = gnF w b m (gnN w b M) := rfl
    have gnS' : gn (gnS w b M) (w + 1) = n := d4.1.1
    have eN : gnN w b M = adF w b n (gnS w b M) := by unfold gnN; rw [gnS']
    obtain ⟨x', f1, f2, f3, -, f5, f6, f7⟩ := adF_spec hB hd n4 hf n (Nat.le_refl n) _ x d4 d5 hx
    rw [← eN] at f1 f2 f5 f6
    have zN := adF_R w b n (gnS w b M)
    rw [← eN] at zN
    obtain ⟨i1, i2, i3, i4⟩ := ih (pfX sp lo x f n + 1) (gnN w b M) x' B' hm1 hm2 (fun hm0 => by
      rcases f7 with f7 | f7
      · exact f7
      · exfalso
        clear hatt hI d6 d7
        omega) (d2.same zN.1 zN.2) (d3.same zN.1 zN.2) f1 f2 f3 (d6.same (by rw [f6 _ (by omega) (by omega)]) (by rw [zN.1]) (by rw [zN.1]) (f6 _ (by omega) (by omega))) d7
    rw [eg]
    exact ⟨(d1.tr f5).tr i1, i2, i3, i4⟩
theorem nsp_pos {n : Nat} {F : Nat → Nat → Int64} {q : Int} {p R : Nat → Int} (hL : latOk n F) (hq : 1 ≤ q) (hR : bxR (lT F) n (nGs (lT F) n q p) R) : ∀ k, k < n → 0 < nsp q p R k := fun k hk => by
  obtain ⟨d1, d2, d3⟩ := hL.det
  have hbx := hL.2.2.box hL.1.1 hL.1.2 hk (fun k => q * nrd q p k - p k)
  have hzz := Int.le_ediv_of_mul_le d2 hbx
  have hzR := ((hR k hk).sq (x := q * nrd q p k - p k)).mp hzz
  have u1 : nrd q p k ≤ (R k + p k) / q := Int.le_ediv_of_mul_le (by omega) (by rw [Int.mul_comm]; omega)
  have u2 : - nrd q p k ≤ (R k - p k) / q := Int.le_ediv_of_mul_le (by omega) (by rw [Int.mul_comm, Int.mul_neg]; omega)
  unfold nsp
  omega
theorem nbox {n : Nat} {F : Nat → Nat → Int64} {q S : Int} {p R x : Nat → Int} (hL : latOk n F) (hq : 1 ≤ q) (hR : bxR (lT F) n S R) (hx : qQ (lT F) n (fun k => q * x k - p k) ≤ S) : inBx (nsp q p R) (nlo q p R) x n := fun k hk => by
  obtain ⟨d1, d2, d3⟩ := hL.det
  have hbx := hL.2.2.box hL.1.1 hL.1.2 hk (fun k => q * x k - p k)
  have hco := hL.coii hk
  have h2 : qQ (lT F) n (fun k => q * x k - p k) * coZ (lT F) n k k ≤ S * coZ (lT F) n k k := Int.mul_le_mul_of_nonneg_right hx (by omega)
  have hzz := Int.le_ediv_of_mul_le d2 (Int.le_trans hbx h2)
  have hzR := ((hR k hk).sq (x := q * x k - p k)).mp hzz
  have u1 : x k ≤ (R k + p k) / q := Int.le_ediv_of_mul_le (by omega) (by rw [Int.mul_comm]; omega)
  have u2 : - x k ≤ (R k - p k) / q := Int.le_ediv_of_mul_le (by omega) (by rw [Int.mul_comm, Int.mul_neg]; omega)
  unfold nsp nlo
  omega
/-- a row of the box lies near -/
theorem nzb {q : Int} {p R : Nat → Int} {k : Nat} {t : Int} (hq : 1 ≤ q ∧ q ≤ 60) (hp : bd (p k) 6000) (hR : 0 ≤ R k) (hs : nsp q p R k ≤ 300000) (h1 : nlo q p R k ≤ t) (h2 : t < nlo q p R k + nsp q p R k) : bd (q * t - p k) 9000030 := by
  have dv : ∀ v : Int, q * (v / q) ≤ v ∧ v < q * (v / q) + q := fun v => by
    have h1 := Int.emod_add_mul_ediv v q
    have h2 := Int.emod_nonneg v (show q ≠ 0 by omega)
    have h3 := Int.emod_lt_of_pos v (show 0 < q by omega)
    omega
  have a1 := dv (R k + p k)
  have a2 := dv (R k - p k)
  have en : nsp q p R k = (R k + p k) / q + (R k - p k) / q + 1 := rfl
  have el : nlo q p R k = - ((R k - p k) / q) := rfl
  have m1 : q * t ≤ q * ((R k + p k) / q) := Int.mul_le_mul_of_nonneg_left (by omega) (by omega)
  have m2 : q * (- ((R k - p k) / q)) ≤ q * t := Int.mul_le_mul_of_nonneg_left (by omega) (by omega)
  rw [Int.mul_neg] at m2
  have m3 : q * ((R k + p k) / q + (R k - p k) / q) ≤ q * 299999 := Int.mul_le_mul_of_nonneg_left (by omega) (by omega)
  rw [Int.mul_add] at m3
  unfold bd
  omega
theorem nGs_bd {n : Nat} {F : Nat → Nat → Int64} {q : Int} {p : Nat → Int} (hL : latOk n F) (hq : 1 ≤ q ∧ q ≤ 60) : 0 ≤ nGs (lT F) n q p ∧ nGs (lT F) n q p ≤ 16000000 := by
  refine ⟨hL.2.2.nonneg _, ?_⟩
  have zb : ∀ k, k < n → bd (q * nrd q p k - p k) 30 := fun k _ => by
    have := nrd_bd (q := q) (p := p) (by omega) k
    unfold bd at this ⊢
    omega
  have := (sum_bd4 (A := 4 * (30 * 999 * 30)) hL.1.2 (by omega) (fun i hi => sum_bd4 (A := 30 * 999 * 30) hL.1.2 (by omega) (fun j hj => ((zb i hi).mul (hL.2.1 i j hi hj)).mul (zb j hj)))).2
  show qQ (lT F) n _ ≤ _
  unfold qQ qB
  refine Int.le_trans this (by omega)
