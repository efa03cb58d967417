theorem bg4_ok {kd : List (Nat × Nat)} {M : mv_M} {w b : Nat} (hw : swOk kd M w) (hb : boOk kd M b) : swOk kd (bg4 M w b) w ∧ boOk kd (bg4 M w b) b ∧ isN ((bg4 M w b).1 w 1) 4 := by
  obtain ⟨k1, k2, k3, k4, r1, r2, r3, r4, g1⟩ := hw
  obtain ⟨b1, b2, b3, b4, s1, s2, s3, e1, e2, e3, e4⟩ := hb
  have nb : b ≠ w := mv_kne b1 k1 (by decide)
  have j0 : ∀ (o j : Nat), o ≠ w → (bg4 M w b).1 o j = M.1 o j := fun o j q => by simp [bg4, mv_si, mv_sl, q]
  have jw : (bg4 M w b).1 w 1 = nI (wdF (M.2.1 (b + 2)) (bw M b - 1)) := by simp [bg4, mv_si, mv_sl]
  have w1 : gn (bg4 M w b) (w + 1) = gn M (w + 1) := congrArg Int32.toNatClampNeg (j0 (w + 1) 0 (by omega))
  have w2 : bw (bg4 M w b) b = bw M b := congrArg Int32.toNatClampNeg (j0 b 0 nb)
  have w3 : bc (bg4 M w b) b = bc M b := congrArg Int32.toNatClampNeg (j0 b 1 nb)
  have hwd := wdF_le (M.2.1 (b + 2)) (bw M b - 1)
  refine ⟨⟨k1, k2, k3, k4, r1, r2, r3, r4, g1.1, g1.2.1, g1.2.2.1, ?_, ?_⟩, ⟨b1, b2, b3, b4, s1, s2, s3, ?_, ?_, ?_, ?_⟩, ?_⟩
  · rw [j0 (w + 1) 0 (by omega), w1]; exact g1.2.2.2.1
  · rw [w1]; exact g1.2.2.2.2
  · rw [j0 b 0 nb, w2]; exact e1
  · rw [w2]; exact e2
  · rw [j0 b 1 nb, w3]; exact e3
  · rw [w3]; exact e4
  · rw [jw]; exact isN.nI (by omega) (by omega)
theorem bgO_ok {kd : List (Nat × Nat)} {h : mv_M} {w a b : Nat} {q : Int32} {bd : Int64} (hw : swOk kd h w) (ha : laOk kd h a) (hb : boOk kd h b) (h1 : w ≠ a) (h2 : w + 1 ≠ a + 3) : swOk kd (bgO h w a q bd b).2 w ∧ boOk kd (bgO h w a q bd b).2 b ∧ (¬ (bgO h w a q bd b).1 = 0 → isN ((bgO h w a q bd b).2.1 w 1) 4) ∧ ((bgO h w a q bd b).1 = 0 ∨ (bgO h w a q bd b).1 = 1) := by
  obtain ⟨hw2, ha2, hb2, -⟩ := bg2_ok (q := q) hw ha hb h1 h2
  have z := rgF_R w a bd b (bg2 h w a q b) (gn h (a + 1))
  have hw3 := hw2.same z.1 z.2
  have hb3 := hb2.same z.1 z.2
  obtain ⟨c1, c2, c3⟩ := bg4_ok hw3 hb3
  have y := snF_R w b (bg4 (rgF w a bd b (gn h (a + 1)) (bg2 h w a q b)) w b) (gn h (a + 1))
  unfold bgO
  split
  · exact ⟨hw3, hb3, fun e => absurd rfl e, Or.inl rfl⟩
  · exact ⟨c1.same y.1 y.2, c2.same y.1 y.2, fun _ => by rw [y.1]; exact c3, Or.inr rfl⟩
theorem swAim_R (h : mv_M) (w : Nat) (a b c d : Int32) : (swAim h w a b c d).1 = h.1 ∧ (swAim h w a b c d).2.2 = h.2.2 := ⟨rfl, rfl⟩
def guPre (h : mv_M) (w a : Nat) (s : Int32) (b : Nat) : Prop := ¬ (guA h w a s b).1 = 0 → ((guP (guA h w a s b).2 w b).toInt < 2 ^ 62 ∧ ∀ n, n = (guP (guA h w a s b).2 w b).toInt.toNat → guB w b s.toInt64 n (guA h w a s b).2)
def sX5_gatherUpTo (kd : List (Nat × Nat)) : mv_S := ms_aaia (fun w a s b h => (swOk kd h w ∧ laOk kd h a ∧ boOk kd h b ∧ w ≠ a ∧ w + 1 ≠ a + 3) ∧ guPre h w a s b) (fun w a s b h v h' => v = some (.int (guO h w a s b).1) ∧ h' = (guO h w a s b).2)
noncomputable def csX5_gatherUpTo (kd : List (Nat × Nat)) : mv_CS := (mv_cc 56 5 4 (sX5_aimAt kd) (mv_cc 60 5 4 (sX5_begin kd) (mv_cc 64 0 0 (sX0_boxCount kd) (mv_cc 70 0 1 (sX0_span kd) (mv_cc 74 99 2 (sX5_floorOf kd) (mv_cc 78 5 0 (sX5_prepare kd) (mv_cc 81 5 2 (sX5_noteUpTo kd) (mv_cc 85 5 1 (sX5_advance kd) (mv_cc 89 0 0 (sX0_sort kd) (mv_cc 92 0 0 (sX0_count kd) mv_c0))))))))))
theorem oX5_gatherUpTo {l : Launch} {b : Nat} {ad : Nat → Nat} {D : va_G} {cA : Nat → ClassId} {kd : List (Nat × Nat)} (had : ∀ i, i < kd.length → ad i = b + i) : mv_Own l (mv_room 4) b ad D cA kd RX5 flX5 cIX5 cLX5 (csX5_gatherUpTo kd) := (mv_oV lRX5_56 zX5_aimAt rfl (by decide) (ctX5_aimAt had) ⟨by decide, by decide⟩ (mv_oV lRX5_60 zX5_begin rfl (by decide) (ctX5_begin had) ⟨by decide, by decide⟩ (mv_oV lRX5_64 zX0_boxCount rfl (by decide) (ctX0_boxCount had) ⟨by decide, by decide⟩ (mv_oV lRX5_70 zX0_span rfl (by decide) (ctX0_span had) ⟨by decide, by decide⟩ (mv_oS lRX5_74 zX5_floorOf (ctX5_floorOf had) ⟨by decide, by decide⟩ (mv_oV lRX5_78 zX5_prepare rfl (by decide) (ctX5_prepare had) ⟨by decide, by decide⟩ (mv_oV lRX5_81 zX5_noteUpTo rfl (by decide) (ctX5_noteUpTo had) ⟨by decide, by decide⟩ (mv_oV lRX5_85 zX5_advance rfl (by decide) (ctX5_advance had) ⟨by decide, by decide⟩ (mv_oV lRX5_89 zX0_sort rfl (by decide) (ctX0_sort had) ⟨by decide, by decide⟩ (mv_oV lRX5_92 zX0_count rfl (by decide) (ctX0_count had) ⟨by decide, by decide⟩ (mv_o0 flX5_ok cIX5_ok cLX5_ok)))))))))))
set_option maxRecDepth 100000 in
set_option maxHeartbeats 4000000 in
theorem ctX5_gatherUpTo {l : Launch} {b : Nat} {ad : Nat → Nat} {D : va_G} {cA : Nat → ClassId} {kd : List (Nat × Nat)} (had : ∀ i, i < kd.length → ad i = b + i) : mv_Ct l b ad D cA kd yX5_gatherUpTo cX5_gatherUpTo 8 (some .int) 4 (sX5_gatherUpTo kd) := by
  refine mv_introF (rk := 1) tX5_gatherUpTo (mv_pf plRX5) kX5_gatherUpTo had ⟨(fun e => by cases e), (fun _ => rfl), (fun e => by cases e), (fun e => by cases e), (fun e => by cases e)⟩ (oX5_gatherUpTo had) ?_
  intro h as hp
  obtain ⟨x0, x1, x2, x3, rfl, hq⟩ := ms_aaia_inv hp
  refine ⟨Nat.le_of_ble_eq_true rfl, fun X hX => ?_⟩
  show X 0 [some (.ref x0), some (.ref x1), some (.int x2), some (.ref x3), none, none, none, none] [] h
  obtain ⟨⟨hw, ha, hb, d1, d2⟩, hPB⟩ := hq
  unfold guPre at hPB
  have k1 := hw.1
  have b1 := hb.1
  have zA := swAim_R h x0 0 0 0 0
  have hwA := hw.same zA.1 zA.2
  have haA := ha.same zA.1 zA.2
  have hbA := hb.same zA.1 zA.2
  obtain ⟨o1, o2, o3, o4⟩ := bgO_ok (q := 1) (bd := x2.toInt64) hwA haA hbA d1 d2
  have nb : x3 ≠ x0 := mv_kne b1 k1 (by decide)
  have hG : bgO (swAim h x0 0 0 0 0) x0 x1 1 x2.toInt64 x3 = guA h x0 x1 x2 x3 := rfl
  rw [hG] at o1 o2 o3 o4
  generalize hA : guA h x0 x1 x2 x3 = G at o1 o2 o3 o4 hPB hG
  have loop : (guP G.2 x0 x3).toInt < 2 ^ 62 → ∀ n (st : Int64) (M : mv_M), 0 ≤ st.toInt → n = ((guP G.2 x0 x3).toInt - st.toInt).toNat → swOk kd M x0 → boOk kd M x3 → isN (M.1 x0 1) 4 → guB x0 x3 x2.toInt64 n M → guF x0 x3 x2.toInt64 n M = guO h x0 x1 x2 x3 → X 43 [some (.ref x0), some (.ref x1), some (.int x2), some (.ref x3), some (.long (guP G.2 x0 x3)), none, some (.long st), none] [] M := by
    intro hP n
    induction n with
    | zero =>
      intro st M hs0 hn nw nb2 nf hB he
      have hle : guP G.2 x0 x3 ≤ st := Int64.le_iff_toInt_le.mpr (by omega)
      have hbF : ∀ f, boOk kd (boFill M x3 f) x3 := fun f => boFill_ok f nb2
      have hbI : ∀ f, (boFill M x3 f).1 = M.1 := fun f => rfl
      refine mv_go hX 60 ?_
      simp only [mv_wps, mv_exq, mv_exr, mv_exn, mv_xg, mv_xpi, mv_xpl, mv_xpr, mv_xc, mv_xc2, mv_xs, mv_9z, mv_cqs, mv_calls, mv_lgz, mv_stz, mv_kz, mv_cz, mv_fvs, mv_ats, mv_ics, mv_rz, mv_tz, mv_cns, mv_nfs, mv_fins, mv_det, mv_cc, mv_c0, Nat.reduceAdd, Nat.reduceEqDiff, Nat.reduceLT, Nat.reduceLeDiff, Nat.reduceSub, reduceIte, decide_false, decide_true, Bool.false_eq_true, List.map_cons, List.map_nil, List.sum_cons, List.sum_nil, true_and, and_true, true_or, or_true, false_or, or_false, false_and, and_false, true_implies, false_implies, implies_true, not_true_eq_false, not_false_eq_true, lg_cmp_ge, lg_cmp_le, lg_cmp_gt, lg_cmp_lt, lg_cmp_eq, qX5_gatherUpTo, flX5s, cIX5s, cLX5s, csX5_gatherUpTo, sX5_gatherUpTo, sX5_aimAt, sX5_begin, sX0_boxCount, sX0_span, sX5_floorOf, sX5_prepare, sX5_noteUpTo, sX5_advance, sX0_sort, sX0_count, ms_a, ms_aa, ms_aaia, ms_aaila, ms_ai, ms_aiiii, ms_ala, ms_ll, k1, b1, nw, nb2, hbF, hbI]
      refine ⟨fun _ => ?_, fun hc => absurd hle hc⟩
      rw [← he]
      exact ⟨rfl, rfl⟩
    | succ n ih =>
      intro st M hs0 hn nw nb2 nf hB he
      have hlt : ¬ guP G.2 x0 x3 ≤ st := fun q => by
        have := Int64.le_iff_toInt_le.mp q
        omega
      have zP := swPrep_R M x0
      have pw := nw.same zP.1 zP.2
      have pb := nb2.same zP.1 zP.2
      have pf : isN ((swPrep M x0).1 x0 1) 4 := nf
      have kk : kp kd x0 x3 (swPrep M x0) (guS x0 x3 x2.toInt64 M).2 := nuO_kp pw pb
      have hS : nuO (swPrep M x0) x0 x3 x2.toInt64 = guS x0 x3 x2.toInt64 M := rfl
      have hN : adF x0 x3 (gn (guS x0 x3 x2.toInt64 M).2 (x0 + 1)) (guS x0 x3 x2.toInt64 M).2 = guN x0 x3 x2.toInt64 M := rfl
      refine mv_go hX 60 ?_
      simp only [mv_wps, mv_exq, mv_exr, mv_exn, mv_xg, mv_xpi, mv_xpl, mv_xpr, mv_xc, mv_xc2, mv_xs, mv_9z, mv_cqs, mv_calls, mv_lgz, mv_stz, mv_kz, mv_cz, mv_fvs, mv_ats, mv_ics, mv_rz, mv_tz, mv_cns, mv_nfs, mv_fins, mv_det, mv_cc, mv_c0, Nat.reduceAdd, Nat.reduceEqDiff, Nat.reduceLT, Nat.reduceLeDiff, Nat.reduceSub, reduceIte, decide_false, decide_true, Bool.false_eq_true, List.map_cons, List.map_nil, List.sum_cons, List.sum_nil, true_and, and_true, true_or, or_true, false_or, or_false, false_and, and_false, true_implies, false_implies, implies_true, not_true_eq_false, not_false_eq_true, lg_cmp_ge, lg_cmp_le, lg_cmp_gt, lg_cmp_lt, lg_cmp_eq, qX5_gatherUpTo, flX5s, cIX5s, cLX5s, csX5_gatherUpTo, sX5_gatherUpTo, sX5_aimAt, sX5_begin, sX0_boxCount, sX0_span, sX5_floorOf, sX5_prepare, sX5_noteUpTo, sX5_advance, sX0_sort, sX0_count, ms_a, ms_aa, ms_aaia, ms_aaila, ms_ai, ms_aiiii, ms_ala, ms_ll, k1, b1, nw, nb2, pw, pb, pf, hB.1, hS, kk.1, kk.2.1, hN]
      refine ⟨fun hc => absurd hc hlt, fun _ => ⟨fun hz => ?_, fun hz => ?_⟩⟩
      · have hst : (st + 1).toInt = st.toInt + 1 := i64_succ (L := guP G.2 x0 x3) (Int64.le_iff_toInt_le.mpr (by omega)) hP
        have zN := adF_R x0 x3 (gn (guS x0 x3 x2.toInt64 M).2 (x0 + 1)) (guS x0 x3 x2.toInt64 M).2
        have nw2 : swOk kd (guN x0 x3 x2.toInt64 M) x0 := kk.1.same zN.1 zN.2
        have nb3 : boOk kd (guN x0 x3 x2.toInt64 M) x3 := kk.2.1.same zN.1 zN.2
        have nf2 : isN ((guN x0 x3 x2.toInt64 M).1 x0 1) 4 := by
          show isN ((adF x0 x3 (gn (guS x0 x3 x2.toInt64 M).2 (x0 + 1)) (guS x0 x3 x2.toInt64 M).2).1 x0 1) 4
          rw [zN.1, kk.2.2.2 x0 1 (by omega)]
          exact nf
        rw [guF, if_neg hz] at he
        exact ih (st + 1) _ (by omega) (by omega) nw2 nb3 nf2 (hB.2 hz) he
      · have hz := Classical.not_not.mp hz
        rw [guF, if_pos hz] at he
        rw [← he]
        exact ⟨rfl, rfl⟩
  refine mv_go hX 60 ?_
  simp only [mv_wps, mv_exq, mv_exr, mv_exn, mv_xg, mv_xpi, mv_xpl, mv_xpr, mv_xc, mv_xc2, mv_xs, mv_9z, mv_cqs, mv_calls, mv_lgz, mv_stz, mv_kz, mv_cz, mv_fvs, mv_ats, mv_ics, mv_rz, mv_tz, mv_cns, mv_nfs, mv_fins, mv_det, mv_cc, mv_c0, Nat.reduceAdd, Nat.reduceEqDiff, Nat.reduceLT, Nat.reduceLeDiff, Nat.reduceSub, reduceIte, decide_false, decide_true, Bool.false_eq_true, List.map_cons, List.map_nil, List.sum_cons, List.sum_nil, true_and, and_true, true_or, or_true, false_or, or_false, false_and, and_false, true_implies, false_implies, implies_true, not_true_eq_false, not_false_eq_true, lg_cmp_ge, lg_cmp_le, lg_cmp_gt, lg_cmp_lt, lg_cmp_eq, qX5_gatherUpTo, flX5s, cIX5s, cLX5s, csX5_gatherUpTo, sX5_gatherUpTo, sX5_aimAt, sX5_begin, sX0_boxCount, sX0_span, sX5_floorOf, sX5_prepare, sX5_noteUpTo, sX5_advance, sX0_sort, sX0_count, ms_a, ms_aa, ms_aaia, ms_aaila, ms_ai, ms_aiiii, ms_ala, ms_ll, k1, b1, hw, hwA, haA, hbA, d1, d2, hG, o1, o2]
  refine ⟨⟨d1, d2⟩, fun hz => ?_, fun hz => ?_⟩
  · have he : guF x0 x3 x2.toInt64 (guP G.2 x0 x3).toInt.toNat G.2 = guO h x0 x1 x2 x3 := by
      rw [guO, hA, if_neg hz]
    have e0 : (0 : Int64).toInt = 0 := by decide
    exact loop (hPB hz).1 (guP G.2 x0 x3).toInt.toNat 0 G.2 (by omega) (by rw [e0]; simp) o1 o2 (o3 hz) ((hPB hz).2 _ rfl) he
  · have hz := Classical.not_not.mp hz
    rw [guO, hA, if_pos hz]
    exact ⟨rfl, rfl⟩
