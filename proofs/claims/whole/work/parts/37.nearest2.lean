set_option maxRecDepth 100000 in
set_option maxHeartbeats 4000000 in
theorem ctX5_gatherNearest {l : Launch} {b : Nat} {ad : Nat → Nat} {D : va_G} {cA : Nat → ClassId} {kd : List (Nat × Nat)} (had : ∀ i, i < kd.length → ad i = b + i) : mv_Ct l b ad D cA kd yX5_gatherNearest cX5_gatherNearest 10 (some .int) 4 (sX5_gatherNearest kd) := by
  refine mv_introF (rk := 1) tX5_gatherNearest (mv_pf plRX5) kX5_gatherNearest had ⟨(fun e => by cases e), (fun _ => rfl), (fun e => by cases e), (fun e => by cases e), (fun e => by cases e)⟩ (oX5_gatherNearest had) ?_
  intro h as hp
  obtain ⟨x0, x1, x2, x3, rfl, hq⟩ := ms_aaia_inv hp
  refine ⟨Nat.le_of_ble_eq_true rfl, fun X hX => ?_⟩
  show X 0 [some (.ref x0), some (.ref x1), some (.int x2), some (.ref x3), none, none, none, none, none, none] [] h
  obtain ⟨⟨hw, ha, hb, d1, d2⟩, hPB⟩ := hq
  unfold gnPre at hPB
  have k1 := hw.1
  have b1 := hb.1
  have nb : x3 ≠ x0 := mv_kne b1 k1 (by decide)
  obtain ⟨zw, za, zb⟩ := gnZ_ok (q := x2) hw ha hb
  obtain ⟨o1, o2, o3, o4⟩ := bgO_ok (q := x2) (bd := (gnZ h x0 x1 x2).2.1 x0 5) zw za zb d1 d2
  have hZ : mv_si (mv_sl (fillA h (x0 + 5) (zFn h x0 x2.toInt64 (gn h (x1 + 1)))) x0 5 (sumL (fun i => zFn h x0 x2.toInt64 (gn h (x1 + 1)) i * lnB h (x1 + 1) (zFn h x0 x2.toInt64 (gn h (x1 + 1))) (nI i)) (gn h (x1 + 1)))) x0 6 0 = gnZ h x0 x1 x2 := rfl
  have hG : bgO (gnZ h x0 x1 x2) x0 x1 x2 ((gnZ h x0 x1 x2).2.1 x0 5) x3 = gnA h x0 x1 x2 x3 := rfl
  rw [hG] at o1 o2 o3 o4
  generalize hA : gnA h x0 x1 x2 x3 = G at o1 o2 o3 o4 hPB hG
  have loop : (guP G.2 x0 x3).toInt < 2 ^ 62 → ∀ n (st : Int64) (M : mv_M), 0 ≤ st.toInt → n = ((guP G.2 x0 x3).toInt - st.toInt).toNat → swOk kd M x0 → boOk kd M x3 → isN (M.1 x0 1) 4 → gnF x0 x3 n M = gnO h x0 x1 x2 x3 → ∀ o o', X 53 [some (.ref x0), some (.ref x1), some (.int x2), some (.ref x3), some (.long (guP G.2 x0 x3)), none, some (.long st), none, o, o'] [] M := by
    intro hP n
    induction n with
    | zero =>
      intro st M hs0 hn nw nb2 nf he o o'
      have hle : guP G.2 x0 x3 ≤ st := Int64.le_iff_toInt_le.mpr (by omega)
      have hbF : ∀ f, boOk kd (boFill M x3 f) x3 := fun f => boFill_ok f nb2
      have hbI : ∀ f, (boFill M x3 f).1 = M.1 := fun f => rfl
      refine mv_go hX 80 ?_
      simp only [mv_wps, mv_exq, mv_exr, mv_exn, mv_xg, mv_xpi, mv_xpl, mv_xpr, mv_xc, mv_xc2, mv_xs, mv_9z, mv_cqs, mv_calls, mv_lgz, mv_stz, mv_kz, mv_cz, mv_fvs, mv_ats, mv_ics, mv_rz, mv_tz, mv_cns, mv_nfs, mv_fins, mv_det, mv_cc, mv_c0, Nat.reduceAdd, Nat.reduceEqDiff, Nat.reduceLT, Nat.reduceLeDiff, Nat.reduceSub, reduceIte, decide_false, decide_true, Bool.false_eq_true, List.map_cons, List.map_nil, List.sum_cons, List.sum_nil, true_and, and_true, true_or, or_true, false_or, or_false, false_and, and_false, true_implies, false_implies, implies_true, not_true_eq_false, not_false_eq_true, lg_cmp_ge, lg_cmp_le, lg_cmp_gt, lg_cmp_lt, lg_cmp_eq, qX5_gatherNearest, flX5s, cIX5s, cLX5s, csX5_gatherNearest, sX5_gatherNearest, sX5_sizeOfRounding, sX5_begin, sX0_boxCount, sX0_span, sX5_floorOf, sX5_prepare, sX5_offer, sX5_advance, sX0_sort, sX0_count, ms_a, ms_aa, ms_aaia, ms_aaila, ms_aal, ms_ai, ms_ala, ms_ll, k1, b1, nw, nb2, hbF, hbI]
      refine ⟨fun _ => ⟨fun hz => ?_, fun hz => ?_⟩, fun hc => absurd hle hc⟩
      · rw [gnF, if_pos hz] at he
        rw [← he]
        exact ⟨rfl, rfl⟩
      · rw [gnF, if_neg hz] at he
        rw [← he]
        exact ⟨rfl, rfl⟩
    | succ n ih =>
      intro st M hs0 hn nw nb2 nf he o o'
      have hlt : ¬ guP G.2 x0 x3 ≤ st := fun q => by
        have := Int64.le_iff_toInt_le.mp q
        omega
      have zP := swPrep_R M x0
      have pw := nw.same zP.1 zP.2
      have pb := nb2.same zP.1 zP.2
      have pf : isN ((swPrep M x0).1 x0 1) 4 := nf
      have hvf : vp_in ((swPrep M x0).1 x0 1) 4 := by
        rw [pf.1]
        exact vp_in_nI pf.2 (by omega)
      have kA := swOffer_kq (x := gnL M x0) pw pb
      have fA : isN ((swOffer (swPrep M x0) x0 x3 (gnL M x0)).1 x0 1) 4 := by
        rw [kA.2.2.2 x0 1 (by omega) (by omega)]
        exact pf
      have kB := swOffer_kq (x := gnL M x0 + 1) kA.1 kA.2.1
      have hL : flO ((swPrep M x0).2.1 (x0 + 3) ((swPrep M x0).1 x0 1).toNatClampNeg * (swPrep M x0).2.1 x0 2 - (swPrep M x0).2.1 x0 3) (((swPrep M x0).1 x0 0).toInt64 * (swPrep M x0).2.1 x0 2) = gnL M x0 := rfl
      have hS : swOffer (swOffer (swPrep M x0) x0 x3 (gnL M x0)) x0 x3 (gnL M x0 + 1) = gnS x0 x3 M := rfl
      rw [hS] at kB
      have hN : adF x0 x3 (gn (gnS x0 x3 M) (x0 + 1)) (gnS x0 x3 M) = gnN x0 x3 M := rfl
      refine mv_go hX 80 ?_
      simp only [mv_wps, mv_exq, mv_exr, mv_exn, mv_xg, mv_xpi, mv_xpl, mv_xpr, mv_xc, mv_xc2, mv_xs, mv_9z, mv_cqs, mv_calls, mv_lgz, mv_stz, mv_kz, mv_cz, mv_fvs, mv_ats, mv_ics, mv_rz, mv_tz, mv_cns, mv_nfs, mv_fins, mv_det, mv_cc, mv_c0, Nat.reduceAdd, Nat.reduceEqDiff, Nat.reduceLT, Nat.reduceLeDiff, Nat.reduceSub, reduceIte, decide_false, decide_true, Bool.false_eq_true, List.map_cons, List.map_nil, List.sum_cons, List.sum_nil, true_and, and_true, true_or, or_true, false_or, or_false, false_and, and_false, true_implies, false_implies, implies_true, not_true_eq_false, not_false_eq_true, lg_cmp_ge, lg_cmp_le, lg_cmp_gt, lg_cmp_lt, lg_cmp_eq, qX5_gatherNearest, flX5s, cIX5s, cLX5s, csX5_gatherNearest, sX5_gatherNearest, sX5_sizeOfRounding, sX5_begin, sX0_boxCount, sX0_span, sX5_floorOf, sX5_prepare, sX5_offer, sX5_advance, sX0_sort, sX0_count, ms_a, ms_aa, ms_aaia, ms_aaila, ms_aal, ms_ai, ms_ala, ms_ll, k1, b1, nw, nb2, pw, pb, pf, hvf, pw.2.2.2.2.2.1, mv_lenK pw.2.1, hL, kA.1, kA.2.1, fA, hS, kB.1, kB.2.1, hN]
      refine ⟨fun hc => absurd hc hlt, fun _ => ?_⟩
      have hst : (st + 1).toInt = st.toInt + 1 := i64_succ (L := guP G.2 x0 x3) (Int64.le_iff_toInt_le.mpr (by omega)) hP
      have zN := adF_R x0 x3 (gn (gnS x0 x3 M) (x0 + 1)) (gnS x0 x3 M)
      have nw2 : swOk kd (gnN x0 x3 M) x0 := kB.1.same zN.1 zN.2
      have nb3 : boOk kd (gnN x0 x3 M) x3 := kB.2.1.same zN.1 zN.2
      have nf2 : isN ((gnN x0 x3 M).1 x0 1) 4 := by
        show isN ((adF x0 x3 (gn (gnS x0 x3 M) (x0 + 1)) (gnS x0 x3 M)).1 x0 1) 4
        rw [zN.1, kB.2.2.2 x0 1 (by omega) (by omega)]
        exact fA
      rw [gnF] at he
      exact ih (st + 1) _ (by omega) (by omega) nw2 nb3 nf2 he _ _
  refine mv_go hX 80 ?_
  simp only [mv_wps, mv_exq, mv_exr, mv_exn, mv_xg, mv_xpi, mv_xpl, mv_xpr, mv_xc, mv_xc2, mv_xs, mv_9z, mv_cqs, mv_calls, mv_lgz, mv_stz, mv_kz, mv_cz, mv_fvs, mv_ats, mv_ics, mv_rz, mv_tz, mv_cns, mv_nfs, mv_fins, mv_det, mv_cc, mv_c0, Nat.reduceAdd, Nat.reduceEqDiff, Nat.reduceLT, Nat.reduceLeDiff, Nat.reduceSub, reduceIte, decide_false, decide_true, Bool.false_eq_true, List.map_cons, List.map_nil, List.sum_cons, List.sum_nil, true_and, and_true, true_or, or_true, false_or, or_false, false_and, and_false, true_implies, false_implies, implies_true, not_true_eq_false, not_false_eq_true, lg_cmp_ge, lg_cmp_le, lg_cmp_gt, lg_cmp_lt, lg_cmp_eq, qX5_gatherNearest, flX5s, cIX5s, cLX5s, csX5_gatherNearest, sX5_gatherNearest, sX5_sizeOfRounding, sX5_begin, sX0_boxCount, sX0_span, sX5_floorOf, sX5_prepare, sX5_offer, sX5_advance, sX0_sort, sX0_count, ms_a, ms_aa, ms_aaia, ms_aaila, ms_aal, ms_ai, ms_ala, ms_ll, k1, b1, hw, ha, zw, za, zb, d1, d2, hZ, hG, o1, o2]
  refine ⟨⟨d1, d2⟩, fun hz => ?_, fun hz => ?_⟩
  · have he : gnF x0 x3 (guP G.2 x0 x3).toInt.toNat G.2 = gnO h x0 x1 x2 x3 := by
      rw [gnO, hA, if_neg hz]
    have e0 : (0 : Int64).toInt = 0 := by decide
    exact loop (hPB hz) (guP G.2 x0 x3).toInt.toNat 0 G.2 (by omega) (by rw [e0]; simp) o1 o2 (o3 hz) he _ _
  · have hz := Classical.not_not.mp hz
    rw [gnO, hA, if_pos hz]
    exact ⟨rfl, rfl⟩
