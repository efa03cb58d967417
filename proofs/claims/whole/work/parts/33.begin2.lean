theorem bg1_ok {kd : List (Nat × Nat)} {h : mv_M} {w a b : Nat} {q : Int32} (hw : swOk kd h w) (ha : laOk kd h a) (hb : boOk kd h b) (h1 : w ≠ a) (h2 : w + 1 ≠ a + 3) : laOk kd (mv_si (gCopy h (w + 1) (a + 1)) w 0 q) a ∧ boOk kd (mv_si (gCopy h (w + 1) (a + 1)) w 0 q) b ∧ (mv_si (gCopy h (w + 1) (a + 1)) w 0 q).1 (a + 1) 0 = h.1 (a + 1) 0 := by
  obtain ⟨k1, k2, k3, k4, r1, r2, r3, r4, g1⟩ := hw
  obtain ⟨l1, l2, l3, l4, l5, l6, l7⟩ := ha
  obtain ⟨b1, b2, b3, b4, s1, s2, s3, e1, e2, e3, e4⟩ := hb
  have n1 : b ≠ w := mv_kne b1 k1 (by decide)
  have n2 : b ≠ w + 1 := mv_kne b1 g1.1 (by decide)
  have n5 : a + 1 ≠ w := mv_kne l6.1 k1 (by decide)
  have n6 : a + 3 ≠ w := mv_kne l7.1 k1 (by decide)
  have i0 : ∀ o j, ¬ (o = w + 1 ∧ j = 0) → ¬ (o = w ∧ j = 0) → (mv_si (gCopy h (w + 1) (a + 1)) w 0 q).1 o j = h.1 o j := fun o j z1 z2 => by
    simp [gCopy, gFill, mv_si, z1, z2]
  have ia1 := i0 (a + 1) 0 (by omega) (by omega)
  have ia3 := i0 (a + 3) 0 (by omega) (by omega)
  have ib0 := i0 b 0 (by omega) (by omega)
  have ib1 := i0 b 1 (by omega) (by omega)
  have m2 : gn (mv_si (gCopy h (w + 1) (a + 1)) w 0 q) (a + 1) = gn h (a + 1) := by unfold gn; rw [ia1]
  have m3 : gn (mv_si (gCopy h (w + 1) (a + 1)) w 0 q) (a + 3) = gn h (a + 3) := by unfold gn; rw [ia3]
  have m4 : bw (mv_si (gCopy h (w + 1) (a + 1)) w 0 q) b = bw h b := by unfold bw; rw [ib0]
  have m5 : bc (mv_si (gCopy h (w + 1) (a + 1)) w 0 q) b = bc h b := by unfold bc; rw [ib1]
  refine ⟨⟨l1, l2, l3, l4, l5, ⟨l6.1, l6.2.1, l6.2.2.1, ?_, ?_⟩, ⟨l7.1, l7.2.1, l7.2.2.1, ?_, ?_⟩⟩, ⟨b1, b2, b3, b4, s1, s2, s3, ?_, ?_, ?_, ?_⟩, ia1⟩
  · rw [ia1, m2]; exact l6.2.2.2.1
  · rw [m2]; exact l6.2.2.2.2
  · rw [ia3, m3]; exact l7.2.2.2.1
  · rw [m3]; exact l7.2.2.2.2
  · rw [ib0, m4]; exact e1
  · rw [m4]; exact e2
  · rw [ib1, m5]; exact e3
  · rw [m5]; exact e4
set_option maxRecDepth 100000 in
set_option maxHeartbeats 4000000 in
theorem ctX5_begin {l : Launch} {b : Nat} {ad : Nat → Nat} {D : va_G} {cA : Nat → ClassId} {kd : List (Nat × Nat)} (had : ∀ i, i < kd.length → ad i = b + i) : mv_Ct l b ad D cA kd yX5_begin cX5_begin 9 (some .boolean) 3 (sX5_begin kd) := by
  refine mv_introF (rk := 2) tX5_begin (mv_pf plRX5) kX5_begin had ⟨(fun e => by cases e), (fun e => by cases e), (fun _ => rfl), (fun e => by cases e), (fun e => by cases e)⟩ (oX5_begin had) ?_
  intro h as hp
  obtain ⟨x0, x1, x2, x3, x4, rfl, hq⟩ := ms_aaila_inv hp
  refine ⟨Nat.le_of_ble_eq_true rfl, fun X hX => ?_⟩
  show X 0 [some (.ref x0), some (.ref x1), some (.int x2), some (.long x3), none, some (.ref x4), none, none, none] [] h
  obtain ⟨hw, ha, hb, d1, d2⟩ := hq
  obtain ⟨k1, k2, k3, k4, r1, r2, r3, r4, g1⟩ := id hw
  obtain ⟨l1, l2, l3, l4, l5, l6, l7⟩ := id ha
  have b1 := hb.1
  have hn4 := l6.2.2.2.2
  obtain ⟨hw2, ha2, hb2, eq0, en2, ebw2, eai⟩ := bg2_ok (q := x2) hw ha hb d1 d2
  obtain ⟨ha1, hb1, ei1⟩ := bg1_ok (q := x2) hw ha hb d1 d2
  generalize hM0 : bg2 h x0 x1 x2 x4 = M0 at hw2 ha2 hb2 eq0 en2 ebw2 eai
  have two : ∀ (N : mv_M), swOk kd N x0 → laOk kd N x1 → boOk kd N x4 → gn N (x1 + 1) = gn h (x1 + 1) → (1, snF x0 x4 (gn h (x1 + 1)) N) = bgO h x0 x1 x2 x3 x4 → ∀ i, i ≤ gn h (x1 + 1) → ∀ o o', X 162 [some (.ref x0), some (.ref x1), some (.int x2), some (.long x3), none, some (.ref x4), some (.int (nI i)), o, o'] [] (snF x0 x4 i N) := by
    intro N nw na nb nn he
    refine mv_up (gn h (x1 + 1)) ?_
    intro i hi ih o o'
    have z := snF_R x0 x4 N i
    have hwi := nw.same z.1 z.2
    have hai := na.same z.1 z.2
    have hbi := nb.same z.1 z.2
    have e1 : (snF x0 x4 i N).1 (x1 + 1) 0 = nI (gn h (x1 + 1)) := by
      rw [z.1, ← nn]
      exact na.2.2.2.2.2.1.2.2.2.1
    have ei : (nI i).toNatClampNeg = i := nI_clamp (by omega)
    have q1 : (if inR (bw (snF x0 x4 i N) x4) (nI i) then (snF x0 x4 i N).2.1 (x4 + 1) (nI i).toNatClampNeg else 0) = loB (snF x0 x4 i N) x4 (nI i) := rfl
    refine mv_go hX 60 ?_
    simp only [mv_wps, mv_exq, mv_exr, mv_exn, mv_xg, mv_xpi, mv_xpl, mv_xpr, mv_xc, mv_xc2, mv_xs, mv_9z, mv_cqs, mv_calls, mv_lgz, mv_stz, mv_kz, mv_cz, mv_fvs, mv_ats, mv_ics, mv_rz, mv_tz, mv_cns, mv_nfs, mv_fins, mv_det, mv_cc, mv_c0, Nat.reduceAdd, Nat.reduceEqDiff, Nat.reduceLT, Nat.reduceLeDiff, Nat.reduceSub, reduceIte, decide_false, decide_true, Bool.false_eq_true, List.map_cons, List.map_nil, List.sum_cons, List.sum_nil, true_and, and_true, true_or, or_true, false_or, or_false, false_and, and_false, true_implies, false_implies, implies_true, not_true_eq_false, not_false_eq_true, lg_cmp_ge, lg_cmp_le, lg_cmp_gt, lg_cmp_lt, lg_cmp_eq, qX5_begin, flX5s, cIX5s, cLX5s, csX5_begin, sX5_begin, sX1_copy, sX3_ways, sX0_open, sX1_at, sX5_floorOf, sX5_rootOf, sX5_ceilingOf, sX0_setRange, sX0_boxCount, sX0_widest, sX0_lowest, sX5_setNumber, ms_a, ms_aa, ms_aaila, ms_ai, ms_aii, ms_ail, ms_aill, ms_l, ms_ll, k1, l1, b1, hwi, hai, hbi, e1, q1]
    refine ⟨fun hc => ?_, fun hc => ?_⟩
    · rw [nI_leI (by omega) (by omega)] at hc
      obtain rfl : i = gn h (x1 + 1) := by omega
      rw [← he]
      exact ⟨rfl, rfl⟩
    · rw [nI_leI (by omega) (by omega)] at hc
      rw [nI_1]
      exact ih (by omega) _ _
  have one : ∀ i, i ≤ gn h (x1 + 1) → ∀ o o', X 28 [some (.ref x0), some (.ref x1), some (.int x2), some (.long x3), none, some (.ref x4), some (.int (nI i)), o, o'] [] (rgF x0 x1 x3 x4 i M0) := by
    refine mv_up (gn h (x1 + 1)) ?_
    intro i hi ih o o'
    have z := rgF_R x0 x1 x3 x4 M0 i
    have hwi := hw2.same z.1 z.2
    have hai := ha2.same z.1 z.2
    have hbi := hb2.same z.1 z.2
    have e1 : (rgF x0 x1 x3 x4 i M0).1 (x1 + 1) 0 = nI (gn h (x1 + 1)) := by
      rw [z.1, ← en2]
      exact ha2.2.2.2.2.2.1.2.2.2.1
    have ei : (nI i).toNatClampNeg = i := nI_clamp (by omega)
    have q0 : rtO (flO (x3 * gAt (rgF x0 x1 x3 x4 i M0) (x1 + 3) (nI i) (nI i)) ((rgF x0 x1 x3 x4 i M0).2.1 x1 3)) = bgR (rgF x0 x1 x3 x4 i M0) x1 x3 i := rfl
    have hsg : ∀ v, (mv_si (rgF x0 x1 x3 x4 i M0) x0 1 v).1 x0 1 = v := fun v => by simp [mv_si]
    have hgk : ∀ v, gOk kd (mv_si (rgF x0 x1 x3 x4 i M0) x0 1 v) (x0 + 1) := fun v => by
      obtain ⟨q1, q2, q3, q4, q5⟩ := hwi.2.2.2.2.2.2.2.2
      have w1 : (mv_si (rgF x0 x1 x3 x4 i M0) x0 1 v).1 (x0 + 1) 0 = (rgF x0 x1 x3 x4 i M0).1 (x0 + 1) 0 := by simp [mv_si]
      have w2 : gn (mv_si (rgF x0 x1 x3 x4 i M0) x0 1 v) (x0 + 1) = gn (rgF x0 x1 x3 x4 i M0) (x0 + 1) := by unfold gn; rw [w1]
      exact ⟨q1, q2, q3, by rw [w1, w2]; exact q4, by rw [w2]; exact q5⟩
    have ebw : bw (rgF x0 x1 x3 x4 i M0) x4 = bw M0 x4 := by unfold bw; rw [z.1]
    have rw7 : (rgF x0 x1 x3 x4 i M0).2.2 x0 7 = some (x0 + 1) := hwi.2.2.2.2.1
    refine mv_go hX 60 ?_
    simp only [mv_wps, mv_exq, mv_exr, mv_exn, mv_xg, mv_xpi, mv_xpl, mv_xpr, mv_xc, mv_xc2, mv_xs, mv_9z, mv_cqs, mv_calls, mv_lgz, mv_stz, mv_kz, mv_cz, mv_fvs, mv_ats, mv_ics, mv_rz, mv_tz, mv_cns, mv_nfs, mv_fins, mv_det, mv_cc, mv_c0, Nat.reduceAdd, Nat.reduceEqDiff, Nat.reduceLT, Nat.reduceLeDiff, Nat.reduceSub, reduceIte, decide_false, decide_true, Bool.false_eq_true, List.map_cons, List.map_nil, List.sum_cons, List.sum_nil, true_and, and_true, true_or, or_true, false_or, or_false, false_and, and_false, true_implies, false_implies, implies_true, not_true_eq_false, not_false_eq_true, lg_cmp_ge, lg_cmp_le, lg_cmp_gt, lg_cmp_lt, lg_cmp_eq, qX5_begin, flX5s, cIX5s, cLX5s, csX5_begin, sX5_begin, sX1_copy, sX3_ways, sX0_open, sX1_at, sX5_floorOf, sX5_rootOf, sX5_ceilingOf, sX0_setRange, sX0_boxCount, sX0_widest, sX0_lowest, sX5_setNumber, ms_a, ms_aa, ms_aaila, ms_ai, ms_aii, ms_ail, ms_aill, ms_l, ms_ll, k1, l1, b1, hwi, hai, hbi, e1, hai.2.2.2.1, hai.2.2.2.2.2.2, l7.1, hwi.2.2.2.2.2.1, mv_lenK k2, q0, ei, hsg, hgk, g1.1, mv_siR, rw7]
    have fin : i = gn h (x1 + 1) → (bxP ((rgF x0 x1 x3 x4 i M0).2.1 (x4 + 2)) (bw (rgF x0 x1 x3 x4 i M0) x4) ≤ 300000 → ∀ o o', X 162 [some (.ref x0), some (.ref x1), some (.int x2), some (.long x3), none, some (.ref x4), some (.int 0), o, o'] [] (bg4 (rgF x0 x1 x3 x4 i M0) x0 x4)) ∧ (¬ bxP ((rgF x0 x1 x3 x4 i M0).2.1 (x4 + 2)) (bw (rgF x0 x1 x3 x4 i M0) x4) ≤ 300000 → some (Value.int 0) = some (Value.int (bgO h x0 x1 x2 x3 x4).1) ∧ rgF x0 x1 x3 x4 i M0 = (bgO h x0 x1 x2 x3 x4).2) := by
      intro hie
      subst hie
      refine ⟨fun hs o o' => ?_, fun hs => ?_⟩
      · have hs' : ¬ 300000 < bxP ((rgF x0 x1 x3 x4 (gn h (x1 + 1)) M0).2.1 (x4 + 2)) (bw M0 x4) := by rw [← ebw]; exact Int64.not_lt.mpr hs
        have nb : x4 ≠ x0 := mv_kne b1 k1 (by decide)
        have na1 : x1 + 1 ≠ x0 := mv_kne l6.1 k1 (by decide)
        have na3 : x1 + 3 ≠ x0 := mv_kne l7.1 k1 (by decide)
        have j0 : ∀ v (o j : Nat), o ≠ x0 → (mv_si (rgF x0 x1 x3 x4 (gn h (x1 + 1)) M0) x0 1 v).1 o j = (rgF x0 x1 x3 x4 (gn h (x1 + 1)) M0).1 o j := fun v o j q => by simp [mv_si, q]
        refine two (bg4 (rgF x0 x1 x3 x4 (gn h (x1 + 1)) M0) x0 x4) ?_ ?_ ?_ ?_ ?_ 0 (by omega) o o'
        · exact ⟨k1, k2, k3, k4, hwi.2.2.2.2.1, hwi.2.2.2.2.2.1, hwi.2.2.2.2.2.2.1, hwi.2.2.2.2.2.2.2.1, (hgk _).sl⟩
        · obtain ⟨a1, a2, a3, a4, a5, a6, a7⟩ := id hai
          have w1 : gn (bg4 (rgF x0 x1 x3 x4 (gn h (x1 + 1)) M0) x0 x4) (x1 + 1) = gn (rgF x0 x1 x3 x4 (gn h (x1 + 1)) M0) (x1 + 1) := congrArg Int32.toNatClampNeg (j0 _ _ _ na1)
          have w3 : gn (bg4 (rgF x0 x1 x3 x4 (gn h (x1 + 1)) M0) x0 x4) (x1 + 3) = gn (rgF x0 x1 x3 x4 (gn h (x1 + 1)) M0) (x1 + 3) := congrArg Int32.toNatClampNeg (j0 _ _ _ na3)
          exact ⟨a1, a2, a3, a4, a5, ⟨a6.1, a6.2.1, a6.2.2.1, by rw [w1]; exact (j0 _ _ _ na1).trans a6.2.2.2.1, by rw [w1]; exact a6.2.2.2.2⟩, ⟨a7.1, a7.2.1, a7.2.2.1, by rw [w3]; exact (j0 _ _ _ na3).trans a7.2.2.2.1, by rw [w3]; exact a7.2.2.2.2⟩⟩
        · obtain ⟨q1, q2, q3, q4, q5, q6, q7, q8, q9, q10, q11⟩ := id hbi
          have w1 : bw (bg4 (rgF x0 x1 x3 x4 (gn h (x1 + 1)) M0) x0 x4) x4 = bw (rgF x0 x1 x3 x4 (gn h (x1 + 1)) M0) x4 := by unfold bw; rw [show (bg4 (rgF x0 x1 x3 x4 (gn h (x1 + 1)) M0) x0 x4).1 x4 0 = (rgF x0 x1 x3 x4 (gn h (x1 + 1)) M0).1 x4 0 from j0 _ _ _ nb]
          have w3 : bc (bg4 (rgF x0 x1 x3 x4 (gn h (x1 + 1)) M0) x0 x4) x4 = bc (rgF x0 x1 x3 x4 (gn h (x1 + 1)) M0) x4 := by unfold bc; rw [show (bg4 (rgF x0 x1 x3 x4 (gn h (x1 + 1)) M0) x0 x4).1 x4 1 = (rgF x0 x1 x3 x4 (gn h (x1 + 1)) M0).1 x4 1 from j0 _ _ _ nb]
          exact ⟨q1, q2, q3, q4, q5, q6, q7, by rw [w1]; exact (j0 _ _ _ nb).trans q8, by rw [w1]; exact q9, by rw [w3]; exact (j0 _ _ _ nb).trans q10, by rw [w3]; exact q11⟩
        · refine (congrArg Int32.toNatClampNeg (j0 _ _ _ na1)).trans ?_
          show ((rgF x0 x1 x3 x4 (gn h (x1 + 1)) M0).1 (x1 + 1) 0).toNatClampNeg = (h.1 (x1 + 1) 0).toNatClampNeg
          rw [z.1, eai]
        · rw [bgO, hM0, if_neg hs']
      · have hs' : 300000 < bxP ((rgF x0 x1 x3 x4 (gn h (x1 + 1)) M0).2.1 (x4 + 2)) (bw M0 x4) := by rw [← ebw]; exact Int64.not_le.mp hs
        rw [bgO, hM0, if_pos hs']
        exact ⟨rfl, rfl⟩
    refine ⟨fun hc => ?_, fun hc => ⟨fun hd => ?_, fun hd => ?_⟩⟩
    · rw [nI_leI (by omega) (by omega)] at hc
      have w := fin (by omega)
      exact ⟨fun q => w.1 q _ _, w.2⟩
    · have hd : nI 4 ≤ nI i := hd
      rw [nI_leI (by omega) (by omega)] at hd hc
      omega
    · rw [nI_leI (by omega) (by omega)] at hc
      have hvi : vp_in (nI i) 4 := vp_in_nI (by omega) (by omega)
      have w := ih (by omega)
      rw [nI_1]
      simp only [hvi, true_and]
      exact w _ _
  refine mv_go hX 60 ?_
  simp only [mv_wps, mv_exq, mv_exr, mv_exn, mv_xg, mv_xpi, mv_xpl, mv_xpr, mv_xc, mv_xc2, mv_xs, mv_9z, mv_cqs, mv_calls, mv_lgz, mv_stz, mv_kz, mv_cz, mv_fvs, mv_ats, mv_ics, mv_rz, mv_tz, mv_cns, mv_nfs, mv_fins, mv_det, mv_cc, mv_c0, Nat.reduceAdd, Nat.reduceEqDiff, Nat.reduceLT, Nat.reduceLeDiff, Nat.reduceSub, reduceIte, decide_false, decide_true, Bool.false_eq_true, List.map_cons, List.map_nil, List.sum_cons, List.sum_nil, true_and, and_true, true_or, or_true, false_or, or_false, false_and, and_false, true_implies, false_implies, implies_true, not_true_eq_false, not_false_eq_true, lg_cmp_ge, lg_cmp_le, lg_cmp_gt, lg_cmp_lt, lg_cmp_eq, qX5_begin, flX5s, cIX5s, cLX5s, csX5_begin, sX5_begin, sX1_copy, sX3_ways, sX0_open, sX1_at, sX5_floorOf, sX5_rootOf, sX5_ceilingOf, sX0_setRange, sX0_boxCount, sX0_widest, sX0_lowest, sX5_setNumber, ms_a, ms_aa, ms_aaila, ms_ai, ms_aii, ms_ail, ms_aill, ms_l, ms_ll, k1, l1, b1, r1, l3, g1, l6, g1.1, hb1, ha1, ei1]
  refine ⟨by omega, ?_⟩
  have w := one 0 (by omega) none none
  rw [← hM0] at w
  exact w
