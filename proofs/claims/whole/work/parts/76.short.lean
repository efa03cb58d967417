/-! The reference: the shortest rows. -/
def lsF (F : Nat → Nat → Int64) : Nat → Int64
  | 0 => F 0 0
  | k + 1 => if F (k + 1) (k + 1) < lsF F k then F (k + 1) (k + 1) else lsF F k
def sX7_findShort (kd : List (Nat × Nat)) : mv_S := ms_ai (fun m l h => moOk kd h m ∧ isN l 20 ∧ isN (h.1 (m + 1) l.toNatClampNeg) 5 ∧ latOk (moW h m l.toNatClampNeg) (aT h (m + 2) (16 * l.toNatClampNeg))) (fun m l h v h' => fdPost h m l.toNatClampNeg (lsF (aT h (m + 2) (16 * l.toNatClampNeg)) (moW h m l.toNatClampNeg - 1)).toInt v h')
theorem lsF_mem (F : Nat → Nat → Int64) : ∀ k, ∃ i, i ≤ k ∧ lsF F k = F i i
  | 0 => ⟨0, Nat.le_refl 0, rfl⟩
  | k + 1 => by
    obtain ⟨i, hi, e⟩ := lsF_mem F k
    unfold lsF
    split
    · exact ⟨k + 1, Nat.le_refl _, rfl⟩
    · exact ⟨i, by omega, e⟩
theorem latOk.ls {n : Nat} {F : Nat → Nat → Int64} (h : latOk n F) : 1 ≤ (lsF F (n - 1)).toInt ∧ (lsF F (n - 1)).toInt ≤ 999 := by
  obtain ⟨i, hi, e⟩ := lsF_mem F (n - 1)
  have hn := h.1
  rw [e]
  have h1 := h.2.2.diag (i := i) (by omega)
  have h2 := (h.2.1 i i (by omega) (by omega)).2
  have e2 : lT F i i = (F i i).toInt := rfl
  omega
noncomputable def csX7_findShort (kd : List (Nat × Nat)) : mv_CS := (mv_cc 164 7 2 (sX7_find kd) mv_c0)
theorem oX7_findShort {l : Launch} {b : Nat} {ad : Nat → Nat} {D : va_G} {cA : Nat → ClassId} {kd : List (Nat × Nat)} (had : ∀ i, i < kd.length → ad i = b + i) : mv_Own l (mv_room 4) b ad D cA kd RX7 flX7 cIX7 cLX7 (csX7_findShort kd) := (mv_oV lRX7_164 zX7_find rfl (by decide) (ctX7_find had) ⟨by decide, by decide⟩ (mv_o0 flX7_ok cIX7_ok cLX7_ok))
set_option maxRecDepth 100000 in
set_option maxHeartbeats 4000000 in
theorem ctX7_findShort {l : Launch} {b : Nat} {ad : Nat → Nat} {D : va_G} {cA : Nat → ClassId} {kd : List (Nat × Nat)} (had : ∀ i, i < kd.length → ad i = b + i) : mv_Ct l b ad D cA kd yX7_findShort cX7_findShort 5 (some .boolean) 4 (sX7_findShort kd) := by
  refine mv_introF (rk := 2) tX7_findShort (mv_pf plRX7) kX7_findShort had ⟨(fun e => by cases e), (fun e => by cases e), (fun _ => rfl), (fun e => by cases e), (fun e => by cases e)⟩ (oX7_findShort had) ?_
  intro h as hp
  obtain ⟨x0, x1, rfl, hq⟩ := ms_ai_inv hp
  refine ⟨Nat.le_of_ble_eq_true rfl, fun X hX => ?_⟩
  show X 0 [some (.ref x0), some (.int x1), none, none, none] [] h
  obtain ⟨hm, ⟨e1, h1⟩, ⟨e2, h2⟩, hlat⟩ := hq
  obtain ⟨⟨k0, k1, k2, k3, k4, k5, k6, k7, k8, k9, k10, k11, k12, k13, k14, k15, k16, k17, k18, k19, k20⟩, ⟨r0, r1, r4, r5, r6, r9, r11, r12, r14, r15, r16, r17, r18, r19, r20, r21, r22, r23, r24, r25⟩⟩ := id hm
  generalize q1 : x1.toNatClampNeg = l0 at *
  subst e1
  have e2 : h.1 (x0 + 1) l0 = nI (moW h x0 l0) := e2
  have h2 : moW h x0 l0 < 5 := h2
  have hls := hlat.ls
  have hn1 := hlat.1
  have hv : vp_in (nI l0) 20 := vp_in_nI (by omega) (by omega)
  have nl : isN (nI l0) 20 := isN.nI (by omega) (by omega)
  have nn : isN (nI (moW h x0 l0)) 5 := isN.nI (by omega) (by omega)
  have loop : ∀ k, k ≤ moW h x0 l0 - 1 → X 13 [some (.ref x0), some (.int (nI l0)), some (.long (lsF (aT h (x0 + 2) (16 * l0)) k)), none, some (.int (nI (k + 1)))] [] h := by
    refine mv_up (moW h x0 l0 - 1) ?_
    intro k hk ih
    by_cases hkn : k < moW h x0 l0 - 1
    · have hlt : ¬ nI (moW h x0 l0) ≤ nI (k + 1) := by rw [nI_leI (by omega) (by omega)]; omega
      have ix : (16 : Int32) * nI l0 + nI (4 * (k + 1) + (k + 1)) = nI (16 * l0 + 4 * (k + 1) + (k + 1)) := by rw [nI_c16, nI_mul, nI_add, Nat.add_assoc]
      have cx : (nI (16 * l0 + 4 * (k + 1) + (k + 1))).toNatClampNeg = 16 * l0 + 4 * (k + 1) + (k + 1) := nI_clamp (by omega)
      have vx : vp_in (nI (16 * l0 + 4 * (k + 1) + (k + 1))) 320 := vp_in_nI (by omega) (by omega)
      have hA : h.2.1 (x0 + 2) (16 * l0 + 4 * (k + 1) + (k + 1)) = aT h (x0 + 2) (16 * l0) (k + 1) (k + 1) := rfl
      have w := ih hkn
      refine mv_go hX 60 ?_
      simp only [mv_wps, mv_exq, mv_exr, mv_exn, mv_xg, mv_xpi, mv_xpl, mv_xpr, mv_xc, mv_xc2, mv_xs, mv_9z, mv_cqs, mv_calls, mv_lgz, mv_stz, mv_kz, mv_cz, mv_fvs, mv_ats, mv_ics, mv_rz, mv_tz, mv_cns, mv_nfs, mv_fins, mv_det, mv_cc, mv_c0, Nat.reduceAdd, Nat.reduceEqDiff, Nat.reduceLT, Nat.reduceLeDiff, Nat.reduceSub, reduceIte, decide_false, decide_true, Bool.false_eq_true, List.map_cons, List.map_nil, List.sum_cons, List.sum_nil, true_and, and_true, true_or, or_true, false_or, or_false, false_and, and_false, true_implies, false_implies, implies_true, not_true_eq_false, not_false_eq_true, lg_cmp_ge, lg_cmp_le, lg_cmp_gt, lg_cmp_lt, lg_cmp_eq, qX7_findShort, flX7s, cIX7s, cLX7s, csX7_findShort, sX7_findShort, sX7_find, ms_ai, ms_ail, k0, r0, r1, mv_lenK k1, mv_lenK k2, hv, q1, e2, hlt, nI_5, ix, cx, vx, hA]
      rw [nI_1]
      refine ⟨fun hy => ?_, fun hy => ?_⟩
      · rw [lsF, if_neg (Int64.not_lt.mpr hy)] at w
        exact w
      · rw [lsF, if_pos (Int64.not_le.mp hy)] at w
        exact w
    · have hle : nI (moW h x0 l0) ≤ nI (k + 1) := by rw [nI_leI (by omega) (by omega)]; omega
      obtain rfl : k = moW h x0 l0 - 1 := by omega
      have hs2 : (lsF (aT h (x0 + 2) (16 * l0)) (moW h x0 l0 - 1)).toInt ≤ 16000000 := by omega
      refine mv_go hX 60 ?_
      simp only [mv_wps, mv_exq, mv_exr, mv_exn, mv_xg, mv_xpi, mv_xpl, mv_xpr, mv_xc, mv_xc2, mv_xs, mv_9z, mv_cqs, mv_calls, mv_lgz, mv_stz, mv_kz, mv_cz, mv_fvs, mv_ats, mv_ics, mv_rz, mv_tz, mv_cns, mv_nfs, mv_fins, mv_det, mv_cc, mv_c0, Nat.reduceAdd, Nat.reduceEqDiff, Nat.reduceLT, Nat.reduceLeDiff, Nat.reduceSub, reduceIte, decide_false, decide_true, Bool.false_eq_true, List.map_cons, List.map_nil, List.sum_cons, List.sum_nil, true_and, and_true, true_or, or_true, false_or, or_false, false_and, and_false, true_implies, false_implies, implies_true, not_true_eq_false, not_false_eq_true, lg_cmp_ge, lg_cmp_le, lg_cmp_gt, lg_cmp_lt, lg_cmp_eq, qX7_findShort, flX7s, cIX7s, cLX7s, csX7_findShort, sX7_findShort, sX7_find, ms_ai, ms_ail, k0, r0, mv_lenK k1, hv, q1, e2, hle, hm, nl, nn, hlat, hls.1, hs2]
      intro v h' hpost
      obtain ⟨A, c', R, hh, hR, h19, hcase⟩ := id hpost
      rcases hcase with ⟨rfl, -⟩ | ⟨rfl, -⟩
      · simp only [mv_wps, mv_exq, mv_exr, mv_exn, mv_xg, mv_xpi, mv_xpl, mv_xpr, mv_xc, mv_xc2, mv_xs, mv_9z, mv_cqs, mv_calls, mv_lgz, mv_stz, mv_kz, mv_cz, mv_fvs, mv_ats, mv_ics, mv_rz, mv_tz, mv_cns, mv_nfs, mv_fins, mv_det, mv_cc, mv_c0, Nat.reduceAdd, Nat.reduceEqDiff, Nat.reduceLT, Nat.reduceLeDiff, Nat.reduceSub, reduceIte, decide_false, decide_true, Bool.false_eq_true, List.map_cons, List.map_nil, List.sum_cons, List.sum_nil, true_and, and_true, true_or, or_true, false_or, or_false, false_and, and_false, true_implies, false_implies, implies_true, not_true_eq_false, not_false_eq_true, lg_cmp_ge, lg_cmp_le, lg_cmp_gt, lg_cmp_lt, lg_cmp_eq, qX7_findShort, flX7s, cIX7s, cLX7s, csX7_findShort, sX7_findShort, sX7_find, ms_ai, ms_ail]
        exact hpost
      · simp only [mv_wps, mv_exq, mv_exr, mv_exn, mv_xg, mv_xpi, mv_xpl, mv_xpr, mv_xc, mv_xc2, mv_xs, mv_9z, mv_cqs, mv_calls, mv_lgz, mv_stz, mv_kz, mv_cz, mv_fvs, mv_ats, mv_ics, mv_rz, mv_tz, mv_cns, mv_nfs, mv_fins, mv_det, mv_cc, mv_c0, Nat.reduceAdd, Nat.reduceEqDiff, Nat.reduceLT, Nat.reduceLeDiff, Nat.reduceSub, reduceIte, decide_false, decide_true, Bool.false_eq_true, List.map_cons, List.map_nil, List.sum_cons, List.sum_nil, true_and, and_true, true_or, or_true, false_or, or_false, false_and, and_false, true_implies, false_implies, implies_true, not_true_eq_false, not_false_eq_true, lg_cmp_ge, lg_cmp_le, lg_cmp_gt, lg_cmp_lt, lg_cmp_eq, qX7_findShort, flX7s, cIX7s, cLX7s, csX7_findShort, sX7_findShort, sX7_find, ms_ai, ms_ail]
        exact hpost
  refine mv_go hX 60 ?_
  have c0 : (nI (16 * l0)).toNatClampNeg = 16 * l0 := nI_clamp (by omega)
  have v0 : vp_in (nI (16 * l0)) 320 := vp_in_nI (by omega) (by omega)
  have hA : h.2.1 (x0 + 2) (16 * l0) = aT h (x0 + 2) (16 * l0) 0 0 := rfl
  simp only [mv_wps, mv_exq, mv_exr, mv_exn, mv_xg, mv_xpi, mv_xpl, mv_xpr, mv_xc, mv_xc2, mv_xs, mv_9z, mv_cqs, mv_calls, mv_lgz, mv_stz, mv_kz, mv_cz, mv_fvs, mv_ats, mv_ics, mv_rz, mv_tz, mv_cns, mv_nfs, mv_fins, mv_det, mv_cc, mv_c0, Nat.reduceAdd, Nat.reduceEqDiff, Nat.reduceLT, Nat.reduceLeDiff, Nat.reduceSub, reduceIte, decide_false, decide_true, Bool.false_eq_true, List.map_cons, List.map_nil, List.sum_cons, List.sum_nil, true_and, and_true, true_or, or_true, false_or, or_false, false_and, and_false, true_implies, false_implies, implies_true, not_true_eq_false, not_false_eq_true, lg_cmp_ge, lg_cmp_le, lg_cmp_gt, lg_cmp_lt, lg_cmp_eq, qX7_findShort, flX7s, cIX7s, cLX7s, csX7_findShort, sX7_findShort, sX7_find, ms_ai, ms_ail, k0, r1, mv_lenK k2, nI_16, c0, v0, hA]
  exact loop 0 (by omega)
