/-! Rows nearest: the prefixes one after another. -/
theorem coll.sortedN {q : Int → Int} {B N : Int} {c : Nat} {P : Nat → Int} {K K' : Nat → Int64} (h : coll (fun p => (0 ≤ p ∧ p < N) ∧ q p = B) c P) (hK : ∀ j, j < c → (K j).toInt = q (P j) * 524288 + P j) (hs : ∀ i j, i < j → j < c → (K' i).toInt ≤ (K' j).toInt) (hp : pm c K K') (hB : ∀ p, 0 ≤ p → p < N → B ≤ q p) : ∃ P', isNr q N c P' B ∧ ∀ j, j < c → (K' j).toInt = q (P' j) * 524288 + P' j := by
  obtain ⟨π, p1, p2, p3, p4, -⟩ := hp
  have hk : ∀ j, j < c → (K' j).toInt = q (P (π j)) * 524288 + P (π j) := fun j hj => by rw [p4 j hj]; exact hK _ (p1 j hj)
  refine ⟨fun j => P (π j), ⟨fun i hi => h.1 _ (p1 i hi), fun i j hij hj => ?_, fun p h0 h1 => ⟨hB p h0 h1, fun hr => ?_⟩⟩, hk⟩
  · have e := hs i j hij hj
    rw [hk i (by omega), hk j hj] at e
    have a := h.1 _ (p1 i (by omega))
    have b := h.1 _ (p1 j hj)
    have ne : P (π i) ≠ P (π j) := by
      have : π i ≠ π j := fun z => by have := p2 i j (by omega) hj z; omega
      rcases Nat.lt_or_gt_of_ne this with w | w
      · exact h.2.1 _ _ w (p1 j hj)
      · exact fun z => h.2.1 _ _ w (p1 i (by omega)) z.symm
    have a2 := a.2
    have b2 := b.2
    dsimp only
    omega
  · obtain ⟨i, hi, e⟩ := h.2.2 p ⟨⟨h0, h1⟩, hr⟩
    obtain ⟨j, hj, ej⟩ := p3 i hi
    exact ⟨j, hj, by show P (π j) = p; rw [ej]; exact e⟩
theorem sq_lt {a b : Int} (ha : 0 ≤ a) (h : a < b) : a * a < b * b := by
  have h1 := Int.mul_le_mul_of_nonneg_left (show a ≤ b by omega) ha
  have h2 := Int.mul_lt_mul_of_pos_right h (show 0 < b by omega)
  omega
/-- one prefix: two offers, then all its rows are seen -/
theorem gnS_spec {kd : List (Nat × Nat)} {w b n f : Nat} {F : Nat → Nat → Int64} {q S0 B : Int} {p lo sp x : Nat → Int} {M : mv_M}
    (hL : latOk n F) (hB : swB n q p lo sp) (hd : w + 6 ≤ b) (hf : f < n) (hN : prZ sp n ≤ 300000) (hZ : ∀ k, k < n → ∀ t, lo k ≤ t → t < lo k + sp k → bd (q * t - p k) 9000030) (hS : 0 ≤ S0 ∧ S0 ≤ 16000000)
    (hbx : ∀ x : Nat → Int, qQ (lT F) n (fun k => q * x k - p k) ≤ S0 → inBx sp lo x n) (hx : ∀ k, k < n → k ≠ f → lo k ≤ x k ∧ x k < lo k + sp k)
    (hw : swOk kd M w) (hb : boOk kd M b) (hC : swC M w b n F q p lo sp f) (hV : swV M w n q p f x) (hI : nrI M w b (fun u => qQ (lT F) n (fun k => q * unZ sp lo n u k - p k)) S0 (fun u => (0 ≤ u ∧ u < prZ sp n) ∧ pfP sp lo f n u < pfX sp lo x f n) B) (hatt : B = S0 ∨ ∃ u, (0 ≤ u ∧ u < prZ sp n) ∧ qQ (lT F) n (fun k => q * unZ sp lo n u k - p k) = B) :
    swFr w b M (gnS w b M) ∧ swOk kd (gnS w b M) w ∧ boOk kd (gnS w b M) b ∧ swC (gnS w b M) w b n F q p lo sp f ∧ swV (gnS w b M) w n q p f x ∧ ∃ B', nrI (gnS w b M) w b (fun u => qQ (lT F) n (fun k => q * unZ sp lo n u k - p k)) S0 (fun u => (0 ≤ u ∧ u < prZ sp n) ∧ pfP sp lo f n u < pfX sp lo x f n + 1) B' ∧ (B' = S0 ∨ ∃ u, (0 ≤ u ∧ u < prZ sp n) ∧ qQ (lT F) n (fun k => q * unZ sp lo n u k - p k) = B') := by
  obtain ⟨⟨n1, n4⟩, hFb, hpd⟩ := id hL
  obtain ⟨⟨q1, q2⟩, hB2⟩ := id hB
  have hsp : ∀ k, k < n → 0 < sp k := fun k hk => (hB2 k hk).2.2.1
  have hsym := hpd.1
  obtain ⟨c1, c2, c3, c4, c5⟩ := swPrep_Q hC hV hd n4 hf
  have zP := swPrep_R M w
  have pw := hw.same zP.1 zP.2
  have pb := hb.same zP.1 zP.2
  have hzf : zfZ q p x f f = 0 := if_pos rfl
  have zb : ∀ k, k < n → bd (zfZ q p x f k) 9000030 := fun k hk => by
    unfold zfZ
    by_cases z : k = f
    · rw [if_pos z]; unfold bd; omega
    · rw [if_neg z]
      exact hZ k hk _ (hx k hk z).1 (hx k hk z).2
  have hFt : ∀ i j, i < n → j < n → bd (lT F i j) 999 := hFb
  have slb : bd (sumZ (fun k => lT F f k * zfZ q p x f k) n) 35964119880 := sum_bd4 (A := 999 * 9000030) n4 (by omega) (fun k hk => (hFt f k hf hk).mul (zb k hk))
  have rsb : bd (qQ (lT F) n (zfZ q p x f)) 1294712631374385600 := (sum_bd4 (A := 4 * (9000030 * 999 * 9000030)) n4 (by omega) (fun i hi => sum_bd4 (A := 9000030 * 999 * 9000030) n4 (by omega) (fun j hj => ((zb i hi).mul (hFt i j hi hj)).mul (zb j hj)))).mono (by omega)
  have sq0 : 0 < lT F f f := hpd.diag hf
  have sqb := hFt f f hf hf
  have rowE : ∀ t : Int, ∀ k, k < n → upZ (zfZ q p x f) f (q * t - p f) k = q * upZ x f t k - p k := fun t k hk => by
    unfold upZ zfZ
    by_cases z : k = f
    · subst z; rw [if_pos rfl, if_pos rfl]
    · rw [if_neg z, if_neg z, if_neg z]
  have gE1 : ∀ t : Int, qQ (lT F) n (fun k => q * upZ x f t k - p k) = (lT F f f * (q * t - p f) + 2 * sumZ (fun k => lT F f k * zfZ q p x f k) n) * (q * t - p f) + qQ (lT F) n (zfZ q p x f) := fun t => by
    rw [← qQ_up hsym hf hzf]
    exact qQ_congr (fun k hk => (rowE t k hk).symm)
  have hgpos : ∀ t : Int, 0 ≤ qQ (lT F) n (fun k => q * upZ x f t k - p k) := fun t => hpd.nonneg _
  generalize hG : (fun t : Int => qQ (lT F) n (fun k => q * upZ x f t k - p k)) = G at *
  have hGt : ∀ t, qQ (lT F) n (fun k => q * upZ x f t k - p k) = G t := fun t => by rw [← hG]
  -- the size found for a number
  have hfound : ∀ N : mv_M, swC N w b n F q p lo sp f → (∀ j, j ≠ 5 → N.2.1 w j = (swPrep M w).2.1 w j) → ∀ t : Int64, bd t.toInt (2 ^ 40) → G t.toInt < 2 ^ 62 → (swFound N w t).toInt = G t.toInt := fun N hCN hN5 t ht hlt => by
    have hQ : swQ N w n F (zfZ q p x f) f := by
      unfold swQ
      rw [hN5 2 (by omega), hN5 3 (by omega), hN5 4 (by omega)]
      exact c3
    have hm := (show bd q 60 from ⟨by omega, q2⟩).mul ht
    have hp := (hB2 f hf).1
    unfold bd at hm hp
    have e0 : (N.1 w 0).toInt64.toInt = q := hCN.2.1.1
    have ef : (N.1 w 1).toNatClampNeg = f := by rw [hCN.2.1.2.1]; exact nI_clamp (by omega)
    have ep := hCN.2.2.1 f hf
    have e1 : ((N.1 w 0).toInt64 * t).toInt = q * t.toInt := by rw [i64_mul (by rw [e0]; omega) (by rw [e0]; omega), e0]
    have e2 : ((N.1 w 0).toInt64 * t - N.2.1 (w + 3) f).toInt = q * t.toInt - p f := by rw [i64_sub (by rw [e1, ep]; omega) (by rw [e1, ep]; omega), e1, ep]
    unfold swFound
    rw [ef, swSize_oI hQ hsym hf hzf, e2, qQ_congr (rowE t.toInt), hGt]
    have := hgpos t.toInt
    rw [hGt] at this
    exact oI_in (by omega) (by omega)
  obtain ⟨k2, k3, k4⟩ := c3
  have e2 : ((swPrep M w).2.1 w 2).toInt = lT F f f := by rw [k2]; rfl
  generalize hsl : sumZ (fun k => lT F f k * zfZ q p x f k) n = sl at *
  generalize hrs : qQ (lT F) n (zfZ q p x f) = rs at *
  generalize hsq : lT F f f = sq at *
  have e3 : ((swPrep M w).2.1 w 3).toInt = sl := by
    unfold bd at slb
    rw [k3, oI_in (by omega) (by omega)]
  have hpf := (hB2 f hf).1
  have hqs : 0 < q * sq := Int.mul_pos (by omega) sq0
  have b1 := (show bd q 60 from ⟨by omega, q2⟩).mul sqb
  have b2 := hpf.mul sqb
  unfold bd at slb rsb sqb b1 b2 hpf
  have eT : (gnL M w).toInt = (p f * sq - sl) / (q * sq) := by
    unfold gnL
    have f1 : (M.1 w 1).toNatClampNeg = f := by rw [hC.2.1.2.1]; exact nI_clamp (by omega)
    have ep : ((swPrep M w).2.1 (w + 3) f).toInt = p f := c1.2.2.1 f hf
    have e0 : (M.1 w 0).toInt64.toInt = q := hC.2.1.1
    have x1 : ((swPrep M w).2.1 (w + 3) f * (swPrep M w).2.1 w 2).toInt = p f * sq := by rw [i64_mul (by rw [ep, e2]; omega) (by rw [ep, e2]; omega), ep, e2]
    have x2 : ((swPrep M w).2.1 (w + 3) f * (swPrep M w).2.1 w 2 - (swPrep M w).2.1 w 3).toInt = p f * sq - sl := by rw [i64_sub (by rw [x1, e3]; omega) (by rw [x1, e3]; omega), x1, e3]
    have x3 : ((M.1 w 0).toInt64 * (swPrep M w).2.1 w 2).toInt = q * sq := by rw [i64_mul (by rw [e0, e2]; omega) (by rw [e0, e2]; omega), e0, e2]
    rw [f1, flO_int (by rw [x3]; exact hqs), x2, x3]
  have dv1 := Int.emod_add_mul_ediv (p f * sq - sl) (q * sq)
  have dv2 := Int.emod_nonneg (p f * sq - sl) (show q * sq ≠ 0 by omega)
  have dv3 := Int.emod_lt_of_pos (p f * sq - sl) hqs
  rw [← eT] at dv1
  have tb : bd (gnL M w).toInt (2 ^ 38) := by
    rw [eT]
    exact div_bd (by omega) (by unfold bd; omega) (by omega)
  unfold bd at tb
  generalize ht0 : gnL M w = t0 at *
  have one : (1 : Int64).toInt = 1 := by decide
  have et1 : (t0 + 1).toInt = t0.toInt + 1 := by rw [i64_add (by rw [one]; omega) (by rw [one]; omega), one]
  -- the form as a square
  have sqG : ∀ t : Int, sq * G t = (q * sq * t - p f * sq + sl) * (q * sq * t - p f * sq + sl) + (sq * rs - sl * sl) := fun t => by
    rw [← hGt, gE1]
    grind
  have A0 : -(q * sq) < q * sq * t0.toInt - p f * sq + sl ∧ q * sq * t0.toInt - p f * sq + sl ≤ 0 := by omega
  have A1 : q * sq * (t0.toInt + 1) = q * sq * t0.toInt + q * sq := by rw [Int.mul_add, Int.mul_one]
  have sqm : ∀ {X Y : Int}, sq * X < sq * Y → X < Y := fun h => Int.lt_of_mul_lt_mul_left h (by omega)
  have small : ∀ t : Int, bd (q * sq * t - p f * sq + sl) (q * sq) → G t < 2 ^ 62 := fun t ht => by
    have h1 := sqG t
    have h2 := (ht.mul ht).2
    have h3 := mul_self_nn sl
    have h4 : q * sq * (q * sq) = sq * (q * q * sq) := by grind
    have h5 : q * q * sq ≤ 60 * 60 * 999 := Int.mul_le_mul (Int.mul_le_mul q2 q2 (by omega) (by omega)) (by omega) (by omega) (by omega)
    have h6 : sq * G t ≤ sq * (q * q * sq + rs) := by rw [Int.mul_add]; omega
    have h7 := Int.le_of_mul_le_mul_left h6 sq0
    omega
  have hG0 := small t0.toInt (by unfold bd; omega)
  have hG1 := small (t0.toInt + 1) (by unfold bd; omega)
  have lower : ∀ t : Int, t < t0.toInt → G t0.toInt < G t := fun t ht => by
    apply sqm
    rw [sqG, sqG]
    have h1 : q * sq * t ≤ q * sq * (t0.toInt - 1) := Int.mul_le_mul_of_nonneg_left (by omega) (by omega)
    rw [Int.mul_sub, Int.mul_one] at h1
    have h2 := sq_lt (a := -(q * sq * t0.toInt - p f * sq + sl)) (b := -(q * sq * t - p f * sq + sl)) (by omega) (by omega)
    rw [Int.neg_mul_neg, Int.neg_mul_neg] at h2
    omega
  have upper : ∀ t : Int, t0.toInt + 1 < t → G (t0.toInt + 1) < G t := fun t ht => by
    apply sqm
    rw [sqG, sqG]
    have h1 : q * sq * (t0.toInt + 2) ≤ q * sq * t := Int.mul_le_mul_of_nonneg_left (by omega) (by omega)
    rw [Int.mul_add] at h1
    have h2 := sq_lt (a := q * sq * (t0.toInt + 1) - p f * sq + sl) (b := q * sq * t - p f * sq + sl) (by omega) (by omega)
    omega
  -- a number in the box gives a place
  have inb : ∀ t : Int, G t ≤ S0 → lo f ≤ t ∧ t < lo f + sp f := fun t ht => by
    have := hbx (upZ x f t) (by rw [hGt]; exact ht) f hf
    have e : upZ x f t f = t := if_pos rfl
    rw [e] at this
    exact this
  have plc : ∀ t : Int, (lo f ≤ t ∧ t < lo f + sp f) → (0 ≤ plZ sp lo (upZ x f t) n ∧ plZ sp lo (upZ x f t) n < prZ sp n) ∧ pfP sp lo f n (plZ sp lo (upZ x f t) n) = pfX sp lo x f n ∧ unZ sp lo n (plZ sp lo (upZ x f t) n) f = t ∧ qQ (lT F) n (fun k => q * unZ sp lo n (plZ sp lo (upZ x f t) n) k - p k) = G t := fun t ht => by
    obtain ⟨hin, hu, hpf⟩ := pf_of (y := t) hx hf ht
    refine ⟨plZ_rng n hin, hpf, ?_, ?_⟩
    · rw [hu f hf]; exact if_pos rfl
    · rw [← hGt]
      exact qQ_congr (fun k hk => by rw [hu k hk])
  have hI1 : nrI (swPrep M w) w b (fun u => qQ (lT F) n (fun k => q * unZ sp lo n u k - p k)) S0 (fun u => (0 ≤ u ∧ u < prZ sp n) ∧ pfP sp lo f n u < pfX sp lo x f n) B := by
    refine hI.same ?_ rfl rfl (c5 _ (by omega))
    unfold swPrep
    rw [mv_sl_nk (by omega), mv_sl_nk (by omega)]
  have hBS := hI.1.2
  obtain ⟨s1, s2, s3, s4, B1, s5, s6, s7, s8⟩ := swOffer_spec (t := t0) (G := G t0.toInt) c1 c2 hd hf n4 hN hx hI1 hS.2 (hfound _ c1 (fun _ _ => rfl) t0 (by unfold bd; omega) hG0) (by rw [← hGt]; exact hgpos _) (inb _) (fun h => (plc _ (inb _ h)).2.2.2) (fun h z => by
    have := (plc _ (inb _ h)).2.1
    have := z.2
    omega)
  have kA := swOffer_kq (x := t0) pw pb
  generalize hM2 : swOffer (swPrep M w) w b t0 = M2 at *
  obtain ⟨r1, r2, r3, r4, B2, r5, r6, r7, r8⟩ := swOffer_spec (t := t0 + 1) (G := G (t0.toInt + 1)) s1 s2 hd hf n4 hN hx s7 hS.2 (by rw [hfound M2 s1 s4 (t0 + 1) (by rw [et1]; unfold bd; omega) (by rw [et1]; exact hG1), et1]) (by rw [← hGt]; exact hgpos _) (by rw [et1]; exact inb _) (fun h => by rw [et1]; exact (plc _ (inb _ h)).2.2.2) (fun h z => by
    rw [et1] at z
    rcases z with z | ⟨z1, z2⟩
    · have := (plc _ (inb _ h)).2.1
      have := z.2
      omega
    · have y1 := (plc _ (inb _ h)).2.2.1
      have y2 := (plc _ (inb _ z2)).2.2.1
      rw [z1, y2] at y1
      omega)
  have kB := swOffer_kq (x := t0 + 1) kA.1 kA.2.1
  have eS : gnS w b M = swOffer M2 w b (t0 + 1) := by
    unfold gnS
    rw [ht0, hM2]
  rw [eS]
  rw [et1] at r7
  have hB1S := s7.1.2
  have hB2S := r7.1.2
  refine ⟨(c4.tr s3).tr r3, kB.1, kB.2.1, r1, r2, B2, r7.ext (fun u hu => ?_) (fun u hu => ?_), ?_⟩
  · rcases hu with (hu | ⟨hu, hg⟩) | ⟨hu, hg⟩
    · exact ⟨hu.1, by omega⟩
    · have := plc _ (inb _ hg)
      rw [hu]
      exact ⟨this.1, by omega⟩
    · have := plc _ (inb _ hg)
      rw [hu]
      exact ⟨this.1, by omega⟩
  · by_cases z : pfP sp lo f n u < pfX sp lo x f n
    · exact Or.inl (Or.inl (Or.inl ⟨hu.1, z⟩))
    · have ez : pfP sp lo f n u = pfX sp lo x f n := by have := hu.2; omega
      have er := pf_row hsp hx ez
      have eu := fun y => pf_same (y := y) hsp hu.1.1 hu.1.2 hx hf ez
      have eq : qQ (lT F) n (fun k => q * unZ sp lo n u k - p k) = G (unZ sp lo n u f) := by
        rw [← hGt]
        exact qQ_congr (fun k hk => by rw [er k hk])
      rw [eq]
      by_cases y1 : unZ sp lo n u f = t0.toInt
      · by_cases y2 : G t0.toInt ≤ S0
        · exact Or.inl (Or.inl (Or.inr ⟨eu _ y1, y2⟩))
        · right; rw [y1]; omega
      · by_cases y3 : unZ sp lo n u f = t0.toInt + 1
        · by_cases y2 : G (t0.toInt + 1) ≤ S0
          · exact Or.inl (Or.inr ⟨eu _ y3, y2⟩)
          · right; rw [y3]; omega
        · right
          by_cases y4 : unZ sp lo n u f < t0.toInt
          · have := lower _ y4; omega
          · have := upper (unZ sp lo n u f) (by omega); omega
  · rcases r8 with z | ⟨z1, z2⟩
    · rw [z]
      rcases s8 with y | ⟨y1, y2⟩
      · rw [y]; exact hatt
      · rw [y1]
        have := plc _ (inb _ y2)
        exact Or.inr ⟨_, this.1, this.2.2.2⟩
    · rw [z1]
      have := plc _ (inb _ z2)
      exact Or.inr ⟨_, this.1, this.2.2.2⟩
