/-! The sweep's beginning, by meaning. -/
theorem bxP_spec {f : Nat → Int64} {sp : Nat → Int} : ∀ (n : Nat), (∀ k, k < n → (f k).toInt = sp k ∧ 0 < sp k ∧ sp k ≤ 2 ^ 40) → ((bxP f n).toInt = prZ sp n ∧ prZ sp n ≤ 300000) ∨ (300000 < (bxP f n).toInt ∧ 300000 < prZ sp n)
  | 0, _ => Or.inl ⟨by show (1 : Int64).toInt = 1; decide, by unfold prZ; omega⟩
  | n + 1, h => by
    have big : (300000 : Int64).toInt = 300000 := by decide
    have ih := bxP_spec n (fun k hk => h k (by omega))
    obtain ⟨e, p, b⟩ := h n (by omega)
    have hpp := prZ_pos (sp := sp) n (fun k hk => (h k (by omega)).2.1)
    unfold bxP
    show (_ = prZ sp n * sp n ∧ prZ sp n * sp n ≤ 300000) ∨ (_ ∧ 300000 < prZ sp n * sp n)
    rcases ih with ⟨i1, i2⟩ | ⟨i1, i2⟩
    · rw [if_neg (by rw [i64_lt, big]; omega)]
      have hm : (show bd (prZ sp n) 300000 from ⟨by omega, i2⟩).mul (show bd (sp n) (2 ^ 40) from ⟨by omega, b⟩) = (show bd (prZ sp n) 300000 from ⟨by omega, i2⟩).mul (show bd (sp n) (2 ^ 40) from ⟨by omega, b⟩) := rfl
      have hb := (show bd (prZ sp n) 300000 from ⟨by omega, i2⟩).mul (show bd (sp n) (2 ^ 40) from ⟨by omega, b⟩)
      unfold bd at hb
      have e1 : (bxP f n * f n).toInt = prZ sp n * sp n := by rw [i64_mul (by rw [i1, e]; omega) (by rw [i1, e]; omega), i1, e]
      rw [e1]
      omega
    · rw [if_pos (by rw [i64_lt, big]; omega)]
      have : prZ sp n * 1 ≤ prZ sp n * sp n := Int.mul_le_mul_of_nonneg_left (by omega) (by omega)
      omega
/-- a lattice of the class by its meaning -/
def laIs (h : mv_M) (a n : Nat) (F : Nat → Nat → Int64) : Prop := (gn h (a + 1) = n ∧ ∀ i j, i < n → j < n → gE h (a + 1) i j = F i j) ∧ (gn h (a + 3) = n ∧ ∀ i j, i < n → j < n → (gE h (a + 3) i j).toInt = coZ (lT F) n i j) ∧ (h.2.1 a 3).toInt = dtZ (lT F) n
theorem laIs.same {h h' : mv_M} {a n : Nat} {F : Nat → Nat → Int64} (z : laIs h a n F) (e1 : h'.1 (a + 1) = h.1 (a + 1)) (e2 : h'.2.1 (a + 2) = h.2.1 (a + 2)) (e3 : h'.1 (a + 3) = h.1 (a + 3)) (e4 : h'.2.1 (a + 4) = h.2.1 (a + 4)) (e5 : h'.2.1 a = h.2.1 a) : laIs h' a n F := by
  obtain ⟨⟨a1, a2⟩, ⟨a3, a4⟩, a5⟩ := z
  refine ⟨⟨?_, fun i j hi hj => ?_⟩, ⟨?_, fun i j hi hj => ?_⟩, by rw [e5]; exact a5⟩
  · unfold gn at a1 ⊢; rw [e1]; exact a1
  · have := a2 i j hi hj
    unfold gE at this ⊢
    rw [show a + 1 + 1 = a + 2 by omega] at this ⊢
    rw [e2]; exact this
  · unfold gn at a3 ⊢; rw [e3]; exact a3
  · have := a4 i j hi hj
    unfold gE at this ⊢
    rw [show a + 3 + 1 = a + 4 by omega] at this ⊢
    rw [e4]; exact this
def bgRz (h : mv_M) (a : Nat) (bd : Int64) : Nat → Int := fun i => (bgR h a bd i).toInt
theorem bgR_spec {h : mv_M} {a n : Nat} {F : Nat → Nat → Int64} {S : Int} {v : Int64} (hL : latOk n F) (ha : laIs h a n F) (hv : v.toInt = S) (h0 : 0 ≤ S) (h1 : S ≤ 16000000) : bxR (lT F) n S (bgRz h a v) ∧ ∀ k, k < n → 0 ≤ bgRz h a v k ∧ bgRz h a v k ≤ 2 ^ 30 := by
  obtain ⟨-, ⟨a3, a4⟩, a5⟩ := ha
  obtain ⟨d1, d2, d3⟩ := hL.det
  have n4 := hL.1.2
  have key : ∀ k, k < n → isRt (S * coZ (lT F) n k k / dtZ (lT F) n) (bgRz h a v k) := fun k hk => by
    have hco := (hL.co (i := k) (k := k)).2
    have hcp := hL.coii hk
    unfold bd at hco
    have eg : gAt h (a + 3) (nI k) (nI k) = gE h (a + 3) k k := by rw [gAt_nI (by omega) (by omega) (by omega), if_pos (by rw [a3]; exact ⟨hk, hk⟩)]
    have hmul : S * coZ (lT F) n k k ≤ 16000000 * 5982017994 := Int.mul_le_mul h1 hco.2 (by omega) (by omega)
    have hmul0 : 0 ≤ S * coZ (lT F) n k k := Int.mul_nonneg h0 (by omega)
    have e1 : (v * gAt h (a + 3) (nI k) (nI k)).toInt = S * coZ (lT F) n k k := by
      rw [eg, i64_mul (by rw [hv, a4 k k hk hk]; omega) (by rw [hv, a4 k k hk hk]; omega), hv, a4 k k hk hk]
    have hdv : S * coZ (lT F) n k k / dtZ (lT F) n ≤ S * coZ (lT F) n k k := Int.ediv_le_self _ hmul0
    have hdv0 : 0 ≤ S * coZ (lT F) n k k / dtZ (lT F) n := Int.ediv_nonneg hmul0 (by omega)
    have e2 : (flO (v * gAt h (a + 3) (nI k) (nI k)) (h.2.1 a 3)).toInt = S * coZ (lT F) n k k / dtZ (lT F) n := by
      rw [flO_int (by rw [a5]; exact d2), e1, a5]
    have := (rtO_is (v := flO (v * gAt h (a + 3) (nI k) (nI k)) (h.2.1 a 3)) (by rw [e2]; exact hdv0) (by rw [e2]; omega)).1
    rw [e2] at this
    exact this
  refine ⟨key, fun k hk => ⟨(key k hk).1, ?_⟩⟩
  have hco := (hL.co (i := k) (k := k)).2
  have hcp := hL.coii hk
  unfold bd at hco
  have hmul : S * coZ (lT F) n k k ≤ 16000000 * 5982017994 := Int.mul_le_mul h1 hco.2 (by omega) (by omega)
  have hmul0 : 0 ≤ S * coZ (lT F) n k k := Int.mul_nonneg h0 (by omega)
  have hdv : S * coZ (lT F) n k k / dtZ (lT F) n ≤ S * coZ (lT F) n k k := Int.ediv_le_self _ hmul0
  have h3 := (key k hk).2.1
  refine Classical.byContradiction (fun w => ?_)
  have := sq_le (show (0 : Int) ≤ 2 ^ 30 by omega) (show 2 ^ 30 ≤ bgRz h a v k by omega)
  omega
theorem bgR_same {h h' : mv_M} {a : Nat} {v : Int64} (e3 : h'.1 (a + 3) = h.1 (a + 3)) (e4 : h'.2.1 (a + 4) = h.2.1 (a + 4)) (e5 : h'.2.1 a = h.2.1 a) (i : Nat) : bgR h' a v i = bgR h a v i := by
  unfold bgR gAt gn
  rw [e3, e5, show a + 3 + 1 = a + 4 by omega, e4]
theorem div_bd {v q B : Int} (hq : 1 ≤ q) (hv : bd v B) (hB : 0 ≤ B) : bd (v / q) B := by
  unfold bd at hv ⊢
  have := Int.mul_le_mul_of_nonneg_left hq hB
  exact ⟨(Int.le_ediv_iff_mul_le (by omega)).mpr (by rw [Int.neg_mul]; omega), Int.ediv_le_of_le_mul (by omega) (by omega)⟩
/-- the box is laid -/
theorem rgF_spec {M : mv_M} {w a b n : Nat} {F : Nat → Nat → Int64} {S q : Int} {v : Int64} {p : Nat → Int} (hL : latOk n F) (ha : laIs M a n F) (hv : v.toInt = S) (h0 : 0 ≤ S) (h1 : S ≤ 16000000) (hd : w + 6 ≤ b) (ha2 : a + 5 < b ∨ b + 3 < a) (hbw : bw M b = n) (hq : (M.1 w 0).toInt64.toInt = q) (hq1 : 1 ≤ q ∧ q ≤ 60) (hp : ∀ k, k < n → (M.2.1 (w + 3) k).toInt = p k ∧ bd (p k) 6000) (hpos : ∀ k, k < n → 0 < nsp q p (bgRz M a v) k) :
    ∀ i, i ≤ n → (∀ o, o ≠ b + 1 → o ≠ b + 2 → (rgF w a v b i M).2.1 o = M.2.1 o) ∧ ∀ k, k < i → ((rgF w a v b i M).2.1 (b + 1) k).toInt = nlo q p (bgRz M a v) k ∧ ((rgF w a v b i M).2.1 (b + 2) k).toInt = nsp q p (bgRz M a v) k
  | 0, _ => ⟨fun _ _ _ => rfl, fun k hk => by omega⟩
  | i + 1, hi => by
    obtain ⟨i1, i2⟩ := rgF_spec hL ha hv h0 h1 hd ha2 hbw hq hq1 hp hpos i (by omega)
    have zR := rgF_R w a v b M i
    have n4 := hL.1.2
    have eR : bgR (rgF w a v b i M) a v i = bgR M a v i := bgR_same (by rw [zR.1]) (i1 _ (by omega) (by omega)) (i1 _ (by omega) (by omega)) i
    have hRb := (bgR_spec hL ha hv h0 h1).2 i (by omega)
    have hRi : (bgR M a v i).toInt = bgRz M a v i := rfl
    have hb : bw (rgF w a v b i M) b = n := by
      unfold bw at hbw ⊢
      rw [zR.1]; exact hbw
    obtain ⟨p1, p2⟩ := hp i (by omega)
    unfold bd at p2
    have c1 : ((rgF w a v b i M).2.1 (w + 3) i - bgR (rgF w a v b i M) a v i).toInt = p i - bgRz M a v i := by
      rw [eR, i1 _ (by omega) (by omega), i64_sub (by rw [p1, hRi]; omega) (by rw [p1, hRi]; omega), p1, hRi]
    have c2 : ((rgF w a v b i M).2.1 (w + 3) i + bgR (rgF w a v b i M) a v i).toInt = p i + bgRz M a v i := by
      rw [eR, i1 _ (by omega) (by omega), i64_add (by rw [p1, hRi]; omega) (by rw [p1, hRi]; omega), p1, hRi]
    have q0 : ((rgF w a v b i M).1 w 0).toInt64.toInt = q := by rw [zR.1]; exact hq
    have c3 : (-((rgF w a v b i M).2.1 (w + 3) i - bgR (rgF w a v b i M) a v i)).toInt = bgRz M a v i - p i := by
      rw [i64_neg (by rw [c1]; omega), c1]; omega
    have d3 := div_bd (v := bgRz M a v i - p i) (B := 2 ^ 31) hq1.1 (by unfold bd; omega) (by omega)
    have d4 := div_bd (v := bgRz M a v i + p i) (B := 2 ^ 31) hq1.1 (by unfold bd; omega) (by omega)
    unfold bd at d3 d4
    have c4 : (ceO ((rgF w a v b i M).2.1 (w + 3) i - bgR (rgF w a v b i M) a v i) ((rgF w a v b i M).1 w 0).toInt64).toInt = nlo q p (bgRz M a v) i := by
      unfold ceO
      have : (flO (-((rgF w a v b i M).2.1 (w + 3) i - bgR (rgF w a v b i M) a v i)) ((rgF w a v b i M).1 w 0).toInt64).toInt = (bgRz M a v i - p i) / q := by rw [flO_int (by rw [q0]; omega), c3, q0]
      rw [i64_neg (by rw [this]; omega), this]
      rfl
    have c5 : (flO ((rgF w a v b i M).2.1 (w + 3) i + bgR (rgF w a v b i M) a v i) ((rgF w a v b i M).1 w 0).toInt64).toInt = (bgRz M a v i + p i) / q := by
      rw [flO_int (by rw [q0]; omega), c2, q0, Int.add_comm]
    have hps := hpos i (by omega)
    have en : nsp q p (bgRz M a v) i = (bgRz M a v i + p i) / q + (bgRz M a v i - p i) / q + 1 := rfl
    have el : nlo q p (bgRz M a v) i = - ((bgRz M a v i - p i) / q) := rfl
    have one : (1 : Int64).toInt = 1 := by decide
    have zero : (0 : Int64).toInt = 0 := by decide
    generalize hlo : ceO ((rgF w a v b i M).2.1 (w + 3) i - bgR (rgF w a v b i M) a v i) ((rgF w a v b i M).1 w 0).toInt64 = LO at *
    generalize hhi : flO ((rgF w a v b i M).2.1 (w + 3) i + bgR (rgF w a v b i M) a v i) ((rgF w a v b i M).1 w 0).toInt64 = HI at *
    have c6 : (HI - LO).toInt = (bgRz M a v i + p i) / q + (bgRz M a v i - p i) / q := by rw [i64_sub (by rw [c4, c5]; omega) (by rw [c4, c5]; omega), c4, c5]; omega
    have c7 : (HI - LO + 1).toInt = nsp q p (bgRz M a v) i := by rw [i64_add (by rw [c6, one]; omega) (by rw [c6, one]; omega), c6, one, en]
    have c8 : (jMaxL 0 (HI - LO + 1)).toInt = nsp q p (bgRz M a v) i := by
      unfold jMaxL
      rw [if_pos (by rw [i64_lt, c7, zero]; exact hps), c7]
    have er : rgF w a v b (i + 1) M = mv_sl (mv_sl (rgF w a v b i M) (b + 1) i LO) (b + 2) i (jMaxL 0 (HI - LO + 1)) := by
      show boRange (rgF w a v b i M) b (nI i) (ceO ((rgF w a v b i M).2.1 (w + 3) i - bgR (rgF w a v b i M) a v i) ((rgF w a v b i M).1 w 0).toInt64) (flO ((rgF w a v b i M).2.1 (w + 3) i + bgR (rgF w a v b i M) a v i) ((rgF w a v b i M).1 w 0).toInt64) = _
      rw [hlo, hhi]
      unfold boRange
      rw [if_pos (by rw [hb]; exact inR_nI (by omega) (by omega)), nI_clamp (by omega)]
    rw [er]
    refine ⟨fun o o1 o2 => ?_, fun k hk => ?_⟩
    · rw [mv_sl_ne o2, mv_sl_ne o1]; exact i1 o o1 o2
    · rw [mv_sl_ne (show b + 1 ≠ b + 2 by omega)]
      by_cases e : k = i
      · subst e
        rw [mv_sl_get, mv_sl_get]
        exact ⟨c4, c8⟩
      · rw [mv_sl_nk e, mv_sl_nk e, mv_sl_ne (show b + 2 ≠ b + 1 by omega)]
        exact i2 k (by omega)
theorem snF_spec {M : mv_M} {w b n f : Nat} {F : Nat → Nat → Int64} {q : Int} {p lo sp : Nat → Int} (hC : swC M w b n F q p lo sp f) (hB : swB n q p lo sp) (hd : w + 6 ≤ b) (hn : n ≤ 4) (hf : f < n) :
    ∀ i, i ≤ n → swC (snF w b i M) w b n F q p lo sp f ∧ swFr w b M (snF w b i M) ∧ (∀ o, o ≠ w + 4 → o ≠ w + 5 → (snF w b i M).2.1 o = M.2.1 o) ∧ (∀ k, k < i → k ≠ f → ((snF w b i M).2.1 (w + 4) k).toInt = lo k ∧ ((snF w b i M).2.1 (w + 5) k).toInt = q * lo k - p k) ∧ (f < i → (snF w b i M).2.1 (w + 5) f = 0)
  | 0, _ => ⟨hC, swFr.rf w b M, fun _ _ _ => rfl, fun k hk => by omega, fun h => by omega⟩
  | i + 1, hi => by
    obtain ⟨i1, i2, i3, i4, i5⟩ := snF_spec hC hB hd hn hf i (by omega)
    have eLo : loB (snF w b i M) b (nI i) = (snF w b i M).2.1 (b + 1) i := by
      unfold loB
      rw [if_pos (by rw [i1.2.2.2.1]; exact inR_nI (by omega) (by omega)), nI_clamp (by omega)]
    have hlo := (i1.2.2.2.2 i (by omega)).1
    have q0 := i1.2.1.1
    have f0 := i1.2.1.2.1
    have p0 := i1.2.2.1 i (by omega)
    obtain ⟨⟨q1, q2⟩, hB2⟩ := hB
    obtain ⟨b1, b2, -⟩ := hB2 i (by omega)
    have hm := (show bd q 60 from ⟨by omega, q2⟩).mul b2
    unfold bd at hm b1
    have e1 : (((snF w b i M).1 w 0).toInt64 * (snF w b i M).2.1 (b + 1) i).toInt = q * lo i := by rw [i64_mul (by rw [q0, hlo]; omega) (by rw [q0, hlo]; omega), q0, hlo]
    have e2 : (((snF w b i M).1 w 0).toInt64 * (snF w b i M).2.1 (b + 1) i - (snF w b i M).2.1 (w + 3) i).toInt = q * lo i - p i := by rw [i64_sub (by rw [e1, p0]; omega) (by rw [e1, p0]; omega), e1, p0]
    have es : snF w b (i + 1) M = swNum (snF w b i M) w (nI i) ((snF w b i M).2.1 (b + 1) i) := by
      show swNum (snF w b i M) w (nI i) (loB (snF w b i M) b (nI i)) = _
      rw [eLo]
    have en : swNum (snF w b i M) w (nI i) ((snF w b i M).2.1 (b + 1) i) = mv_sl (mv_sl (snF w b i M) (w + 4) i ((snF w b i M).2.1 (b + 1) i)) (w + 5) i (if nI i = (snF w b i M).1 w 1 then 0 else ((snF w b i M).1 w 0).toInt64 * (snF w b i M).2.1 (b + 1) i - (snF w b i M).2.1 (w + 3) i) := by
      unfold swNum
      rw [if_pos (inR_nI (by omega) (by omega)), nI_clamp (by omega)]
    rw [es]
    refine ⟨i1.num hd, i2.num, ?_⟩
    rw [en]
    refine ⟨fun o o4 o5 => by rw [mv_sl_ne o5, mv_sl_ne o4]; exact i3 o o4 o5, fun k hk hkf => ?_, fun hfi => ?_⟩
    · rw [mv_sl_ne (show w + 4 ≠ w + 5 by omega)]
      by_cases e : k = i
      · subst e
        have ne : ¬ nI k = (snF w b k M).1 w 1 := fun z => by
          rw [f0] at z
          have := congrArg Int32.toNatClampNeg z
          rw [nI_clamp (by omega), nI_clamp (by omega)] at this
          exact hkf this
        rw [mv_sl_get, mv_sl_get, if_neg ne]
        exact ⟨hlo, e2⟩
      · rw [mv_sl_nk e, mv_sl_nk e, mv_sl_ne (show w + 5 ≠ w + 4 by omega)]
        exact i4 k (by omega) hkf
    · by_cases e : f = i
      · subst e
        rw [mv_sl_get, if_pos f0.symm]
      · rw [mv_sl_nk e, mv_sl_ne (show w + 5 ≠ w + 4 by omega)]
        exact i5 (by omega)
/-- the beginning -/
theorem bgO_spec {kd : List (Nat × Nat)} {h : mv_M} {w a b n : Nat} {F : Nat → Nat → Int64} {S q : Int} {v : Int64} {qq : Int32} {p : Nat → Int} (hw : swOk kd h w) (hla : laOk kd h a) (hb : boOk kd h b) (hL : latOk n F) (ha : laIs h a n F) (hv : v.toInt = S) (h0 : 0 ≤ S) (h1 : S ≤ 16000000) (hd : w + 6 ≤ b) (haw : a + 5 < w ∨ w + 5 < a) (hab : a + 5 < b ∨ b + 3 < a) (hq : qq.toInt64.toInt = q) (hq1 : 1 ≤ q ∧ q ≤ 60) (hp : ∀ k, k < n → (h.2.1 (w + 3) k).toInt = p k ∧ bd (p k) 6000) (hpos : ∀ R, bxR (lT F) n S R → ∀ k, k < n → 0 < nsp q p R k) :
    swFr w b h (bgO h w a qq v b).2 ∧ ∃ R, bxR (lT F) n S R ∧ swB n q p (nlo q p R) (nsp q p R) ∧
      (((bgO h w a qq v b).1 = 0 ∧ 300000 < prZ (nsp q p R) n) ∨ ((bgO h w a qq v b).1 = 1 ∧ prZ (nsp q p R) n ≤ 300000 ∧ ∃ f, f < n ∧ swC (bgO h w a qq v b).2 w b n F q p (nlo q p R) (nsp q p R) f ∧ swV (bgO h w a qq v b).2 w n q p f (nlo q p R) ∧ bc (bgO h w a qq v b).2 b = 0 ∧ (guP (bgO h w a qq v b).2 w b).toInt = prZ (spF (nsp q p R) f) n ∧ (∀ j, j ≠ 2 → (bgO h w a qq v b).2.2.1 w j = h.2.1 w j) ∧ ∀ j, 2 ≤ j → (bgO h w a qq v b).2.1 w j = h.1 w j)) := by
  have n4 := hL.1.2
  have n1 := hL.1.1
  have hwa : w ≠ a := by omega
  have hwa3 : w + 1 ≠ a + 3 := by omega
  obtain ⟨hw2, ha2, hb2, iw0, m2, m4, ia1⟩ := bg2_ok (q := qq) hw hla hb hwa hwa3
  have nA : gn h (a + 1) = n := ha.1.1
  rw [nA] at m4
  have L0 : ∀ o, o ≠ w + 2 → (bg2 h w a qq b).2.1 o = h.2.1 o := fun o ho => by
    funext j
    simp [bg2, gCopy, gFill, mv_si, ho]
  have I0 : ∀ o, o ≠ w → o ≠ w + 1 → o ≠ b → (bg2 h w a qq b).1 o = h.1 o := fun o z1 z2 z3 => by
    funext j
    simp [bg2, gCopy, gFill, mv_si, z1, z2, z3]
  have Iw : ∀ j, 1 ≤ j → (bg2 h w a qq b).1 w j = h.1 w j := fun j hj => by
    have z1 : ¬ w = b := by omega
    have z2 : ¬ j = 0 := by omega
    simp [bg2, gCopy, gFill, mv_si, z1, z2]
  have G1 : gn (bg2 h w a qq b) (w + 1) = n := by
    have : (bg2 h w a qq b).1 (w + 1) 0 = h.1 (a + 1) 0 := by
      have z : ¬ w + 1 = b := by omega
      simp [bg2, gCopy, gFill, mv_si, z]
    unfold gn at nA ⊢
    rw [this]; exact nA
  have G2 : ∀ i j, i < n → j < n → gE (bg2 h w a qq b) (w + 1) i j = F i j := fun i j hi hj => by
    rw [← ha.1.2 i j hi hj]
    have z : 4 * i + j < 16 := by omega
    have z2 : w + 1 + 1 = w + 2 := by omega
    simp [gE, bg2, gCopy, gFill, mv_si, z]
  have B1 : bc (bg2 h w a qq b) b = 0 := by
    have : (bg2 h w a qq b).1 b 1 = 0 := by simp [bg2, mv_si]
    unfold bc
    rw [this]; decide
  have aM : laIs (bg2 h w a qq b) a n F := ha.same (I0 _ (by omega) (by omega) (by omega)) (L0 _ (by omega)) (I0 _ (by omega) (by omega) (by omega)) (L0 _ (by omega)) (L0 _ (by omega))
  have pM : ∀ k, k < n → ((bg2 h w a qq b).2.1 (w + 3) k).toInt = p k ∧ bd (p k) 6000 := fun k hk => by rw [L0 _ (by omega)]; exact hp k hk
  have qM : ((bg2 h w a qq b).1 w 0).toInt64.toInt = q := by rw [iw0]; exact hq
  have fr0 : swFr w b h (bg2 h w a qq b) := ⟨rfl, fun o z1 z2 => ⟨I0 o (by omega) (by omega) (by omega), L0 o (by omega)⟩⟩
  have eO : bgO h w a qq v b = if 300000 < bxP ((rgF w a v b n (bg2 h w a qq b)).2.1 (b + 2)) n then (0, rgF w a v b n (bg2 h w a qq b)) else (1, snF w b n (bg4 (rgF w a v b n (bg2 h w a qq b)) w b)) := by
    unfold bgO
    rw [nA, m4]
  generalize hM0 : bg2 h w a qq b = M0 at *
  obtain ⟨hR, hRb⟩ := bgR_spec hL aM hv h0 h1
  have hps := hpos _ hR
  obtain ⟨r1, r2⟩ := rgF_spec (w := w) hL aM hv h0 h1 hd hab m4 qM hq1 pM hps n (Nat.le_refl n)
  have zR := rgF_R w a v b M0 n
  rw [eO]
  generalize hM1 : rgF w a v b n M0 = M1 at *
  generalize hRe : bgRz M0 a v = R at *
  have fr1 : swFr w b h M1 := fr0.tr ⟨zR.2, fun o z1 z2 => ⟨by rw [zR.1], r1 o (by omega) (by omega)⟩⟩
  have sB : ∀ k, k < n → bd (nlo q p R k) (2 ^ 40) ∧ 0 < nsp q p R k ∧ nsp q p R k ≤ 2 ^ 40 := fun k hk => by
    have h1 := hRb k hk
    have h2 := (pM k hk).2
    unfold bd at h2
    have d3 := div_bd (v := R k - p k) (B := 2 ^ 31) hq1.1 (by unfold bd; omega) (by omega)
    have d4 := div_bd (v := R k + p k) (B := 2 ^ 31) hq1.1 (by unfold bd; omega) (by omega)
    have en : nsp q p R k = (R k + p k) / q + (R k - p k) / q + 1 := rfl
    have el : nlo q p R k = - ((R k - p k) / q) := rfl
    have := hps k hk
    unfold bd at d3 d4 ⊢
    omega
  have hB : swB n q p (nlo q p R) (nsp q p R) := ⟨hq1, fun k hk => ⟨(pM k hk).2, sB k hk⟩⟩
  have big : (300000 : Int64).toInt = 300000 := by decide
  have bx := bxP_spec (f := M1.2.1 (b + 2)) (sp := nsp q p R) n (fun k hk => ⟨(r2 k hk).2, (sB k hk).2⟩)
  have bwM1 : bw M1 b = n := by unfold bw at m4 ⊢; rw [zR.1]; exact m4
  by_cases z : 300000 < bxP (M1.2.1 (b + 2)) n
  · rw [if_pos z]
    rw [i64_lt, big] at z
    exact ⟨fr1, R, hR, hB, Or.inl ⟨rfl, by omega⟩⟩
  · rw [if_neg z]
    rw [i64_lt, big] at z
    have bx : (bxP (M1.2.1 (b + 2)) n).toInt = prZ (nsp q p R) n ∧ prZ (nsp q p R) n ≤ 300000 := by omega
    have wl := wdF_le (M1.2.1 (b + 2)) (n - 1)
    have e4 : bg4 M1 w b = mv_sl (mv_si M1 w 1 (nI (wdF (M1.2.1 (b + 2)) (n - 1)))) w 2 (gAt (mv_si M1 w 1 (nI (wdF (M1.2.1 (b + 2)) (n - 1)))) (w + 1) (nI (wdF (M1.2.1 (b + 2)) (n - 1))) (nI (wdF (M1.2.1 (b + 2)) (n - 1)))) := by
      unfold bg4
      rw [bwM1]
    generalize hf : wdF (M1.2.1 (b + 2)) (n - 1) = f at *
    have gM1 : gn M1 (w + 1) = n := by unfold gn at G1 ⊢; rw [zR.1]; exact G1
    have gS : gn (mv_si M1 w 1 (nI f)) (w + 1) = n := by
      rw [← gM1]
      unfold gn
      have : ¬ w + 1 = w := by omega
      simp [mv_si, this]
    have sqE : gAt (mv_si M1 w 1 (nI f)) (w + 1) (nI f) (nI f) = F f f := by
      rw [gAt_nI (by omega) (by omega) (by omega), gS, if_pos ⟨by omega, by omega⟩, ← G2 f f (by omega) (by omega)]
      show M1.2.1 (w + 1 + 1) (4 * f + f) = _
      rw [r1 _ (by omega) (by omega)]
      rfl
    have C4 : swC (bg4 M1 w b) w b n F q p (nlo q p R) (nsp q p R) f := by
      rw [e4]
      refine ⟨⟨gS, fun i j hi hj => ?_⟩, ⟨?_, ?_, ?_⟩, fun k hk => ?_, ?_, fun k hk => ?_⟩
      · rw [← G2 i j hi hj]
        unfold gE
        rw [mv_sl_ne (by omega)]
        show M1.2.1 (w + 1 + 1) _ = _
        rw [r1 _ (by omega) (by omega)]
      · rw [← qM, ← zR.1]
        simp [mv_sl, mv_si]
      · simp [mv_sl, mv_si]
      · rw [mv_sl_get, sqE]
      · rw [mv_sl_ne (by omega)]
        show (M1.2.1 (w + 3) k).toInt = p k
        rw [r1 _ (by omega) (by omega)]
        exact (pM k hk).1
      · rw [← bwM1]
        unfold bw
        have : ¬ b = w := by omega
        simp [mv_sl, mv_si, this]
      · rw [mv_sl_ne (by omega), mv_sl_ne (by omega)]
        exact r2 k hk
    obtain ⟨s1, s2, s3, s4, s5⟩ := snF_spec C4 hB hd n4 (show f < n by omega) n (Nat.le_refl n)
    have zS := snF_R w b (bg4 M1 w b) n
    have fr4 : swFr w b h (bg4 M1 w b) := by
      rw [e4]
      exact (fr1.si (by omega)).sl (by omega)
    have nbw : ¬ b = w := by omega
    refine ⟨fr4.tr s2, R, hR, hB, Or.inr ⟨rfl, bx.2, f, by omega, s1, ⟨fun k hk hkf => s4 k hk hkf, s5 (by omega)⟩, ?_, ?_, fun j hj => ?_, fun j hj => ?_⟩⟩
    · show bc (snF w b n (bg4 M1 w b)) b = 0
      have : bc (snF w b n (bg4 M1 w b)) b = bc M0 b := by
        unfold bc
        rw [zS.1, e4, ← zR.1]
        simp [mv_sl, mv_si, nbw]
      rw [this]; exact B1
    · unfold guP
      have e5 : (snF w b n (bg4 M1 w b)).2.1 (b + 2) = M1.2.1 (b + 2) := by
        rw [s3 _ (by omega) (by omega), e4, mv_sl_ne (by omega)]
        rfl
      have e6 : spB (snF w b n (bg4 M1 w b)) b ((snF w b n (bg4 M1 w b)).1 w 1) = M1.2.1 (b + 2) f := by
        rw [s1.2.1.2.1]
        unfold spB
        rw [if_pos (by rw [s1.2.2.2.1]; exact inR_nI (by omega) (by omega)), nI_clamp (by omega), e5]
      have hfp := (sB f (by omega)).2.1
      show (flO (bxP ((snF w b n (bg4 M1 w b)).2.1 (b + 2)) (bw (snF w b n (bg4 M1 w b)) b)) (spB (snF w b n (bg4 M1 w b)) b ((snF w b n (bg4 M1 w b)).1 w 1))).toInt = _
      rw [e6, e5, s1.2.2.2.1, flO_int (by rw [(r2 f (by omega)).2]; exact hfp), bx.1, (r2 f (by omega)).2, ← prZ_spF n (show f < n by omega)]
      exact Int.mul_ediv_cancel _ (by omega)
    · show (snF w b n (bg4 M1 w b)).2.1 w j = h.2.1 w j
      rw [s3 _ (by omega) (by omega), e4, mv_sl_nk hj]
      show M1.2.1 w j = h.2.1 w j
      rw [r1 _ (by omega) (by omega), L0 _ (by omega)]
    · show (snF w b n (bg4 M1 w b)).1 w j = h.1 w j
      rw [zS.1, e4, ← Iw j (by omega), ← zR.1]
      have : ¬ j = 1 := by omega
      simp [mv_sl, mv_si, this]
