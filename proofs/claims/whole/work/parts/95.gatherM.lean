/-! Rows up to a size: the prefixes one after another, by meaning. -/
theorem rtO_is {v : Int64} (h0 : 0 ≤ v.toInt) (hv : v.toInt < 2 ^ 62) : isRt v.toInt (rtO v).toInt ∧ (rtO v).toInt < 2 ^ 31 := by
  have h := rbF_root h0 hv
  have e := rtO_root h0 hv h
  rw [← e] at h
  refine ⟨h, ?_⟩
  by_cases z : (rtO v).toInt < 2 ^ 31
  · exact z
  · have := sq_le (a := 2 ^ 31) (b := (rtO v).toInt) (by omega) (by omega)
    have := h.2.1
    omega
theorem sum_bd4 {n : Nat} {f : Nat → Int} {A : Int} (hn : n ≤ 4) (hA : 0 ≤ A) (h : ∀ k, k < n → bd (f k) A) : bd (sumZ f n) (4 * A) := by
  have := bd.sum n h
  refine this.mono ?_
  exact Int.mul_le_mul_of_nonneg_right (by omega) hA
theorem mul_self_nn (a : Int) : 0 ≤ a * a := by
  by_cases h : 0 ≤ a
  · exact Int.mul_nonneg h h
  · have := Int.mul_nonneg (show 0 ≤ -a by omega) (show 0 ≤ -a by omega)
    rw [Int.neg_mul_neg] at this
    exact this
theorem zf1 {x : Nat → Int} {f : Nat} {y : Int} (k : Nat) : upZ (zfZ 1 (fun _ => 0) x f) f y k = upZ x f y k := by
  unfold upZ zfZ
  by_cases z : k = f
  · rw [if_pos z, if_pos z]
  · rw [if_neg z, if_neg z, if_neg z]
    dsimp only
    omega
theorem nuO_spec {w b n f : Nat} {F : Nat → Nat → Int64} {lo sp x : Nat → Int} {s : Int} {sz : Int64} {M : mv_M} {c : Nat} {P : Nat → Int}
    (hL : latOk n F) (hB : swB n 1 (fun _ => 0) lo sp) (hd : w + 6 ≤ b) (hf : f < n) (hN : prZ sp n ≤ 300000) (hx : ∀ k, k < n → k ≠ f → lo k ≤ x k ∧ x k < lo k + sp k) (hxb : ∀ k, k < n → k ≠ f → bd (x k) 150000) (hs : 1 ≤ s ∧ s ≤ 1000000) (hsz : sz.toInt = s)
    (hbx : ∀ y : Int, qQ (lT F) n (upZ x f y) ≤ s → lo f ≤ y ∧ y < lo f + sp f)
    (hC : swC M w b n F 1 (fun _ => 0) lo sp f) (hV : swV M w n 1 (fun _ => 0) f x) (hQ : swQ M w n F (zfZ 1 (fun _ => 0) x f) f) (hc : c ≤ 1000) (hk : bkS M b c (fun p => qQ (lT F) n (unZ sp lo n p)) P)
    (hcol : coll (fun p => ((0 ≤ p ∧ p < prZ sp n) ∧ rOK (fun p => qQ (lT F) n (unZ sp lo n p)) s p) ∧ pfP sp lo f n p < pfX sp lo x f n) c P) :
    (nuHi M w sz).toInt < 2 ^ 62 ∧ swFr w b M (nuO M w b sz).2 ∧ (((nuO M w b sz).1 = 0 ∧ moreR (fun p => qQ (lT F) n (unZ sp lo n p)) s (prZ sp n) 1000) ∨ ((nuO M w b sz).1 = 1 ∧ ∃ (c' : Nat) (P' : Nat → Int), c' ≤ 1000 ∧ swC (nuO M w b sz).2 w b n F 1 (fun _ => 0) lo sp f ∧ swV (nuO M w b sz).2 w n 1 (fun _ => 0) f x ∧ bkS (nuO M w b sz).2 b c' (fun p => qQ (lT F) n (unZ sp lo n p)) P' ∧
        coll (fun p => ((0 ≤ p ∧ p < prZ sp n) ∧ rOK (fun p => qQ (lT F) n (unZ sp lo n p)) s p) ∧ pfP sp lo f n p < pfX sp lo x f n + 1) c' P')) := by
  obtain ⟨⟨n1, n4⟩, hFb, hpd⟩ := id hL
  have hsp : ∀ k, k < n → 0 < sp k := fun k hk => (hB.2 k hk).2.2.1
  have hsym := hpd.1
  have hzf : zfZ 1 (fun _ => 0) x f f = 0 := if_pos rfl
  have zb : ∀ k, k < n → bd (zfZ 1 (fun _ => 0) x f k) 150000 := fun k hk => by
    unfold zfZ
    by_cases z : k = f
    · rw [if_pos z]; unfold bd; omega
    · rw [if_neg z]
      have := hxb k hk z
      dsimp only
      unfold bd at this ⊢
      omega
  have hFt : ∀ i j, i < n → j < n → bd (lT F i j) 999 := hFb
  have slb : bd (sumZ (fun k => lT F f k * zfZ 1 (fun _ => 0) x f k) n) 599400000 := sum_bd4 (A := 999 * 150000) n4 (by omega) (fun k hk => (hFt f k hf hk).mul (zb k hk))
  have rsb : bd (qQ (lT F) n (zfZ 1 (fun _ => 0) x f)) 359640000000000 := sum_bd4 (A := 4 * (150000 * 999 * 150000)) n4 (by omega) (fun i hi => sum_bd4 (A := 150000 * 999 * 150000) n4 (by omega) (fun j hj => ((zb i hi).mul (hFt i j hi hj)).mul (zb j hj)))
  have sq0 : 0 < lT F f f := hpd.diag hf
  have sqb := hFt f f hf hf
  have up : ∀ y, qQ (lT F) n (upZ x f y) = (lT F f f * y + 2 * sumZ (fun k => lT F f k * zfZ 1 (fun _ => 0) x f k) n) * y + qQ (lT F) n (zfZ 1 (fun _ => 0) x f) := fun y => by
    rw [← qQ_up hsym hf hzf]
    exact qQ_congr (fun k _ => (zf1 k).symm)
  have hW : ∀ N : mv_M, N.2.1 w = M.2.1 w → ∀ y : Int64, swSize N w y = Int64.ofInt (qQ (lT F) n (upZ x f y.toInt)) := fun N hN y => by
    have hQ' : swQ N w n F (zfZ 1 (fun _ => 0) x f) f := by
      unfold swQ
      rw [hN]
      exact hQ
    rw [swSize_oI hQ' hsym hf hzf]
    congr 1
    exact qQ_congr (fun k _ => zf1 k)
  obtain ⟨q2, q3, q4⟩ := hQ
  have e2 : (M.2.1 w 2).toInt = lT F f f := by rw [q2]; rfl
  generalize hsl : sumZ (fun k => lT F f k * zfZ 1 (fun _ => 0) x f k) n = sl at *
  generalize hrs : qQ (lT F) n (zfZ 1 (fun _ => 0) x f) = rs at *
  generalize hsq : lT F f f = sq at *
  unfold bd at slb rsb sqb
  have e3 : (M.2.1 w 3).toInt = sl := by rw [q3, oI_in (by omega) (by omega)]
  have e4 : (M.2.1 w 4).toInt = rs := by rw [q4, oI_in (by omega) (by omega)]
  have b1 : bd (sl * sl) (599400000 * 599400000) := (show bd sl 599400000 from slb).mul slb
  have b2 : bd (sq * (rs - s)) (999 * 359640001000000) := (show bd sq 999 from sqb).mul (by unfold bd; omega)
  unfold bd at b1 b2
  have eL : (nuL M w sz).toInt = sl * sl - sq * (rs - s) := by
    unfold nuL
    have x1 : (M.2.1 w 3 * M.2.1 w 3).toInt = sl * sl := by rw [i64_mul (by rw [e3]; omega) (by rw [e3]; omega), e3]
    have x2 : (M.2.1 w 4 - sz).toInt = rs - s := by rw [i64_sub (by rw [e4, hsz]; omega) (by rw [e4, hsz]; omega), e4, hsz]
    have x3 : (M.2.1 w 2 * (M.2.1 w 4 - sz)).toInt = sq * (rs - s) := by rw [i64_mul (by rw [e2, x2]; omega) (by rw [e2, x2]; omega), e2, x2]
    rw [i64_sub (by rw [x1, x3]; omega) (by rw [x1, x3]; omega), x1, x3]
  have idn : ∀ y : Int, (sq * y + sl) * (sq * y + sl) = sq * ((sq * y + 2 * sl) * y + rs) + (sl * sl - sq * rs) := fun y => by grind
  have idm : sl * sl - sq * (rs - s) = sl * sl - sq * rs + sq * s := by rw [Int.mul_sub]; omega
  have zero : (0 : Int64).toInt = 0 := by decide
  by_cases z : nuL M w sz < 0
  · have none : ∀ y, ¬ qQ (lT F) n (upZ x f y) ≤ s := fun y hy => by
      rw [i64_lt, eL, zero] at z
      rw [up] at hy
      have h1 := idn y
      have h2 : 0 ≤ (sq * y + sl) * (sq * y + sl) := mul_self_nn _
      have h3 := Int.mul_le_mul_of_nonneg_left hy (show 0 ≤ sq by omega)
      omega
    have e : nuO M w b sz = (1, M) := by unfold nuO; rw [if_pos z]
    refine ⟨?_, ?_⟩
    · have h1 : rtO (nuL M w sz) = 0 := by
        unfold rtO
        rw [if_neg (by rw [i64_lt] at z ⊢; omega)]
      unfold nuHi
      rw [h1, flO_int (by rw [e2]; exact sq0)]
      have h2 : (0 - M.2.1 w 3).toInt = - sl := by rw [i64_sub (by rw [e3, zero]; omega) (by rw [e3, zero]; omega), e3, zero]; omega
      rw [h2, e2]
      have h3 : (- sl) / sq ≤ 599400000 := Int.ediv_le_of_le_mul sq0 (by
        have := Int.mul_le_mul_of_nonneg_left (show 1 ≤ sq by omega) (show (0 : Int) ≤ 599400000 by omega)
        omega)
      omega
    · rw [e]
      refine ⟨swFr.rf w b M, Or.inr ⟨rfl, c, P, hc, hC, hV, hk, hcol.congr (fun p => ⟨fun ⟨a, e⟩ => ⟨a, by omega⟩, fun ⟨a, e⟩ => ⟨a, ?_⟩⟩)⟩⟩
      by_cases z2 : pfP sp lo f n p < pfX sp lo x f n
      · exact z2
      · exfalso
        have h1 := a.2.2
        dsimp only at h1
        rw [qQ_congr (pf_row hsp hx (by omega))] at h1
        exact none _ h1
  · have hge : 0 ≤ (nuL M w sz).toInt := by rw [i64_lt, zero] at z; omega
    obtain ⟨rt, rt2⟩ := rtO_is hge (by rw [eL]; omega)
    have rt0 := rt.1
    generalize hr : (rtO (nuL M w sz)).toInt = r at *
    have eH : (nuHi M w sz).toInt = (r - sl) / sq := by
      unfold nuHi
      have h2 : (rtO (nuL M w sz) - M.2.1 w 3).toInt = r - sl := by rw [i64_sub (by rw [e3, hr]; omega) (by rw [e3, hr]; omega), e3, hr]
      rw [flO_int (by rw [e2]; exact sq0), h2, e2]
    have dbd : ∀ v : Int, bd v (2 ^ 40) → bd (v / sq) (2 ^ 40) := fun v hv => by
      unfold bd at hv ⊢
      refine ⟨(Int.le_ediv_iff_mul_le sq0).mpr ?_, Int.ediv_le_of_le_mul sq0 ?_⟩
      · have := Int.mul_le_mul_of_nonneg_left (show 1 ≤ sq by omega) (show (0 : Int) ≤ 2 ^ 40 by omega)
        omega
      · have := Int.mul_le_mul_of_nonneg_left (show 1 ≤ sq by omega) (show (0 : Int) ≤ 2 ^ 40 by omega)
        omega
    have eLo : (nuLo M w sz).toInt = - ((r + sl) / sq) := by
      unfold nuLo ceO
      have h1 : (-rtO (nuL M w sz)).toInt = - r := by rw [i64_neg (by rw [hr]; omega), hr]
      have h2 : (-rtO (nuL M w sz) - M.2.1 w 3).toInt = - r - sl := by rw [i64_sub (by rw [e3, h1]; omega) (by rw [e3, h1]; omega), e3, h1]
      have h3 : (-(-rtO (nuL M w sz) - M.2.1 w 3)).toInt = r + sl := by rw [i64_neg (by rw [h2]; omega), h2]; omega
      have h4 : (flO (-(-rtO (nuL M w sz) - M.2.1 w 3)) (M.2.1 w 2)).toInt = (r + sl) / sq := by rw [flO_int (by rw [e2]; exact sq0), h3, e2]
      have h5 := dbd (r + sl) (by unfold bd; omega)
      unfold bd at h5
      rw [i64_neg (by rw [h4]; omega), h4]
    have h6 := dbd (r - sl) (by unfold bd; omega)
    unfold bd at h6
    have hrow : ∀ y : Int, qQ (lT F) n (upZ x f y) ≤ s ↔ ((nuLo M w sz).toInt ≤ y ∧ y ≤ (nuHi M w sz).toInt) := fun y => by
      have h1 := idn y
      have h2 := rt.sq (x := sq * y + sl)
      rw [eL] at h2
      rw [eLo, eH, up]
      have h3 : (sq * y + 2 * sl) * y + rs ≤ s ↔ sq * ((sq * y + 2 * sl) * y + rs) ≤ sq * s := (Int.mul_le_mul_left sq0).symm
      have h4 : y ≤ (r - sl) / sq ↔ y * sq ≤ r - sl := Int.le_ediv_iff_mul_le sq0
      have h5 : -y ≤ (r + sl) / sq ↔ -y * sq ≤ r + sl := Int.le_ediv_iff_mul_le sq0
      have h7 : y * sq = sq * y := Int.mul_comm _ _
      rw [Int.neg_mul] at h5
      rw [h3]
      constructor
      · intro q
        have := h2.mp (by omega)
        have := h4.mpr (by omega)
        have := h5.mpr (by omega)
        omega
      · rintro ⟨q1, q2⟩
        have := h4.mp q2
        have := h5.mp (by omega)
        have := h2.mpr (by omega)
        omega
    have e : nuO M w b sz = nuF w b (nuHi M w sz) ((nuHi M w sz).toInt + 1 - (nuLo M w sz).toInt).toNat (nuLo M w sz) M := by unfold nuO; rw [if_neg z]
    refine ⟨by rw [eH]; omega, ?_⟩
    rw [e]
    refine nuF_spec hB hd hf n4 hN hx hs.2 (by rw [eH]; omega) hrow hbx (fun y => hpd.nonneg _) hW _ (nuLo M w sz) M c P rfl (Int.le_refl _) rfl hC hV hc hk (hcol.congr (fun p => ⟨fun ⟨a, e⟩ => ⟨a, Or.inl e⟩, fun ⟨a, e⟩ => ⟨a, ?_⟩⟩))
    rcases e with e | ⟨e1, e2⟩
    · exact e
    · exfalso
      have h1 := a.2.2
      dsimp only at h1
      rw [qQ_congr (pf_row hsp hx e1)] at h1
      have := (hrow _).mp h1
      omega
/-- all prefixes -/
theorem guF_spec {kd : List (Nat × Nat)} {w b n f : Nat} {F : Nat → Nat → Int64} {lo sp : Nat → Int} {s : Int} {sz : Int64}
    (hL : latOk n F) (hB : swB n 1 (fun _ => 0) lo sp) (hd : w + 6 ≤ b) (hf : f < n) (hN : prZ sp n ≤ 300000) (hs : 1 ≤ s ∧ s ≤ 1000000) (hsz : sz.toInt = s) (hlb : ∀ k, k < n → -150000 ≤ lo k ∧ lo k + sp k ≤ 150001)
    (hbx : ∀ x : Nat → Int, qQ (lT F) n x ≤ s → inBx sp lo x n) :
    ∀ (m : Nat) (u : Int) (M : mv_M) (x : Nat → Int) (c : Nat) (P : Nat → Int), m = (prZ (spF sp f) n - u).toNat → u ≤ prZ (spF sp f) n → (0 < m → pfX sp lo x f n = u) → swOk kd M w → boOk kd M b → swC M w b n F 1 (fun _ => 0) lo sp f → swV M w n 1 (fun _ => 0) f x → (∀ k, k < n → k ≠ f → lo k ≤ x k ∧ x k < lo k + sp k) → c ≤ 1000 → bkS M b c (fun p => qQ (lT F) n (unZ sp lo n p)) P →
      coll (fun p => ((0 ≤ p ∧ p < prZ sp n) ∧ rOK (fun p => qQ (lT F) n (unZ sp lo n p)) s p) ∧ pfP sp lo f n p < u) c P →
      guB w b sz m M ∧ swFr w b M (guF w b sz m M).2 ∧ swOk kd (guF w b sz m M).2 w ∧ boOk kd (guF w b sz m M).2 b ∧ (((guF w b sz m M).1 = -2 ∧ moreR (fun p => qQ (lT F) n (unZ sp lo n p)) s (prZ sp n) 1000) ∨ ∃ (c' : Nat) (P' : Nat → Int), (guF w b sz m M).1 = nI c' ∧ c' ≤ 1000 ∧ isRows (fun p => qQ (lT F) n (unZ sp lo n p)) s (prZ sp n) c' P' ∧ swC (guF w b sz m M).2 w b n F 1 (fun _ => 0) lo sp f ∧ bkS (guF w b sz m M).2 b c' (fun p => qQ (lT F) n (unZ sp lo n p)) P') := by
  have hsp : ∀ k, k < n → 0 < sp k := fun k hk => (hB.2 k hk).2.2.1
  have n4 := hL.1.2
  intro m
  induction m with
  | zero =>
    intro u M x c P hm hu hpx hw hb hC hV hx hc hk hcol
    have eu : u = prZ (spF sp f) n := by omega
    have hcol2 : coll (fun p => (0 ≤ p ∧ p < prZ sp n) ∧ rOK (fun p => qQ (lT F) n (unZ sp lo n p)) s p) c P := hcol.congr (fun p => ⟨fun a => a.1, fun a => ⟨a, by
      have hin := unZ_in (lo := lo) (p := p) hsp
      have := (pfX_rng (f := f) (fun k hk _ => hin k hk)).2
      rw [eu]
      exact this⟩⟩)
    have bcM : bc M b = c := hk.1
    obtain ⟨so1, so2⟩ := srF_spec (n := c) hc (M.2.1 (b + 3))
    obtain ⟨P', r1, r2⟩ := hcol2.sorted (by omega) hk.2 so1 so2
    have eg : guF w b sz 0 M = (M.1 b 1, boFill M b (srF (bc M b) (M.2.1 (b + 3)))) := rfl
    rw [eg, bcM]
    have nf : ∀ (g : Nat → Int64) o, o ≠ b + 3 → (boFill M b g).2.1 o = M.2.1 o := fun g o ho => by
      funext j
      simp [boFill, ho]
    refine ⟨trivial, ⟨rfl, fun o h1 h2 => ⟨rfl, nf _ o (by omega)⟩⟩, hw.same rfl rfl, boFill_ok _ hb, Or.inr ⟨c, P', ?_, hc, r1, ?_, ?_, fun j hj => ?_⟩⟩
    · show M.1 b 1 = nI c
      rw [hb.2.2.2.2.2.2.2.2.2.1, bcM]
    · exact hC.same rfl (nf _ _ (by omega)) rfl rfl (by show (boFill M b _).2.1 w 2 = _; rw [nf _ _ (by omega)]) (nf _ _ (by omega)) rfl (nf _ _ (by omega)) (nf _ _ (by omega))
    · exact bcM
    · show ((boFill M b (srF c (M.2.1 (b + 3)))).2.1 (b + 3) j).toInt = _
      rw [boFill_k]
      exact r2 j hj
  | succ m ih =>
    intro u M x c P hm hu hpx hw hb hC hV hx hc hk hcol
    have hpu := hpx (by omega)
    obtain ⟨c1, c2, c3, c4, c5⟩ := swPrep_Q hC hV hd n4 hf
    have zP := swPrep_R M w
    have pw := hw.same zP.1 zP.2
    have pb := hb.same zP.1 zP.2
    have hkP : bkS (swPrep M w) b c (fun p => qQ (lT F) n (unZ sp lo n p)) P := by
      refine ⟨hk.1, fun j hj => ?_⟩
      rw [c5 _ (by omega)]
      exact hk.2 j hj
    rw [← hpu] at hcol
    have hxb : ∀ k, k < n → k ≠ f → bd (x k) 150000 := fun k hk hkf => by
      have h1 := hx k hk hkf
      have h2 := hlb k hk
      unfold bd
      omega
    obtain ⟨d1, d2, d3⟩ := nuO_spec (sz := sz) hL hB hd hf hN hx hxb hs hsz (fun y hy => by
      have := hbx _ hy f hf
      have e : upZ x f y f = y := if_pos rfl
      rw [e] at this
      exact this) c1 c2 c3 hc hkP hcol
    have kk : kp kd w b (swPrep M w) (guS w b sz M).2 := nuO_kp pw pb
    have eS : nuO (swPrep M w) w b sz = guS w b sz M := rfl
    rw [eS] at d2 d3
    have fr1 : swFr w b M (guS w b sz M).2 := c4.tr d2
    rcases d3 with ⟨d3, d4⟩ | ⟨d3, c', P', d4, d5, d6, d7, d8⟩
    · refine ⟨⟨d1, fun z => absurd d3 z⟩, ?_⟩
      have eg : guF w b sz (m + 1) M = (-2, (guS w b sz M).2) := by
        show (if (guS w b sz M).1 = 0 then _ else _) = _
        rw [if_pos d3]
      rw [eg]
      exact ⟨fr1, kk.1, kk.2.1, Or.inl ⟨rfl, d4⟩⟩
    · have nz : ¬ (guS w b sz M).1 = 0 := by rw [d3]; decide
      have eg : guF w b sz (m + 1) M = guF w b sz m (guN w b sz M) := by
        show (if (guS w b sz M).1 = 0 then _ else _) = _
        rw [if_neg nz]
      have gnS : gn (guS w b sz M).2 (w + 1) = n := d5.1.1
      have eN : guN w b sz M = adF w b n (guS w b sz M).2 := by unfold guN; rw [gnS]
      obtain ⟨x', f1, f2, f3, -, f5, f6, f7⟩ := adF_spec hB hd n4 hf n (Nat.le_refl n) _ x d5 d6 hx
      rw [← eN] at f1 f2 f5 f6
      have zN := adF_R w b n (guS w b sz M).2
      rw [← eN] at zN
      have nw2 : swOk kd (guN w b sz M) w := kk.1.same zN.1 zN.2
      have nb3 : boOk kd (guN w b sz M) b := kk.2.1.same zN.1 zN.2
      have hk2 : bkS (guN w b sz M) b c' (fun p => qQ (lT F) n (unZ sp lo n p)) P' := by
        refine ⟨?_, fun j hj => ?_⟩
        · have := d7.1
          unfold bc at this ⊢
          rw [zN.1]
          exact this
        · rw [f6 _ (by omega) (by omega)]
          exact d7.2 j hj
      have hU := (pfX_rng hx).2
      obtain ⟨i1, i2, i3, i4, i5⟩ := ih (u + 1) (guN w b sz M) x' c' P' (by omega) (by omega) (fun hm0 => by
        rcases f7 with f7 | f7
        · rw [f7, hpu]
        · exfalso
          rw [hpu] at f7
          omega) nw2 nb3 f1 f2 f3 d4 hk2 (by rw [← hpu]; exact d8)
      rw [eg]
      exact ⟨⟨d1, fun _ => i1⟩, (fr1.tr f5).tr i2, i3, i4, i5⟩
