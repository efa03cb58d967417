/-! The bench: denser; what facts leave. -/
theorem lsO_I {kd : List (Nat × Nat)} {h : mv_M} {l : Nat} (hI : clI kd h) (hl : l < sbC h) : clI kd (lsO h l) ∧ sbC (lsO h l) = sbC h ∧ sbSp (lsO h l) = sbSp h ∧ sbLs (lsO h l) = sbLs h := by
  have hs := (hI.2 l hl).ls
  have h20 : sbC h ≤ 20 := hI.1.1.2.2.2
  obtain ⟨-, fr, w2, b2, -⟩ := rwO_ok (s := laS h l) hI hl ⟨hs.2.1, by omega⟩
  obtain ⟨hI2, e2, e3, e4⟩ := hI.sw fr w2 b2
  have hR : frU 25 28 (rwO h l (laS h l)).2 (lsR (rwO h l (laS h l)).2 (sbSp h)) := ifO_fr _ _ _
  obtain ⟨hI3, f2, f3, f4⟩ := hI2.ra hR
  by_cases z : (rwO h l (laS h l)).1 < 1
  · rw [lsO_1 z]
    have q := laSteps_R (rwO h l (laS h l)).2 (37 + 6 * l) (-2) (-2) (-2)
    obtain ⟨i1, i2, i3, i4⟩ := hI2.facts (l := l) (by omega) q.1 q.2.1 q.2.2
    exact ⟨i1, i2.trans e2, i3.trans e3, i4.trans e4⟩
  · rw [lsO_2 z]
    generalize lsR (rwO h l (laS h l)).2 (sbSp h) = L at *
    have q := laSteps_R L (37 + 6 * l) (lsMn (rwO h l (laS h l)).2 (sbSp h)) (huFa (rwO h l (laS h l)).2 (sbSp h) (lsMn (rwO h l (laS h l)).2 (sbSp h))).toInt64 (if L.1 25 1 = L.1 25 0 then 1 else 0)
    obtain ⟨i1, i2, i3, i4⟩ := hI3.facts (l := l) (by omega) q.1 q.2.1 q.2.2
    exact ⟨i1, i2.trans (f2.trans e2), i3.trans (f3.trans e3), i4.trans (f4.trans e4)⟩
theorem foO_0 {h : mv_M} {l w : Nat} (z : ¬ h.2.1 (37 + 6 * l + 5) w = -9) : foO h l w = (h.2.1 (37 + 6 * l + 5) w, h) := by
  unfold foO
  rw [if_neg z]
theorem foO_1 {h : mv_M} {l w : Nat} (z : h.2.1 (37 + 6 * l + 5) w = -9) (y : ¬ w = 6) : foO h l w = ((lsO h l).2.1 (37 + 6 * l + 5) w, lsO h l) := by
  unfold foO
  rw [if_pos z, if_neg y]
theorem foO_2 {h : mv_M} {l w : Nat} (z : h.2.1 (37 + 6 * l + 5) w = -9) (y : w = 6) : foO h l w = ((cwO h l l 0).1, mv_sl (cwO h l l 0).2 (37 + 6 * l + 5) 6 (cwO h l l 0).1) := by
  unfold foO
  rw [if_pos z, if_pos y]
theorem foO_I {kd : List (Nat × Nat)} {h : mv_M} {l w : Nat} (hI : clI kd h) (hl : l < sbC h) : clI kd (foO h l w).2 ∧ sbC (foO h l w).2 = sbC h ∧ sbSp (foO h l w).2 = sbSp h ∧ sbLs (foO h l w).2 = sbLs h := by
  have h20 : sbC h ≤ 20 := hI.1.1.2.2.2
  by_cases z : h.2.1 (37 + 6 * l + 5) w = -9
  · by_cases y : w = 6
    · rw [foO_2 z y]
      dsimp only
      obtain ⟨i1, i2, i3, i4, -⟩ := cwO_I (first := 0) hI hl hl
      generalize cwO h l l 0 = W at *
      obtain ⟨j1, j2, j3, j4⟩ := i1.facts (M := mv_sl W.2 (37 + 6 * l + 5) 6 W.1) (l := l) (by omega) rfl rfl (fun o ho => mv_sl_ne ho)
      exact ⟨j1, j2.trans i2, j3.trans i3, j4.trans i4⟩
    · rw [foO_1 z y]
      dsimp only
      exact lsO_I hI hl
  · rw [foO_0 z]
    exact ⟨hI, rfl, rfl, rfl⟩
noncomputable def dsA (h : mv_M) (a : Nat) : Int64 × mv_M := foO h a 3
noncomputable def dsB (h : mv_M) (a d : Nat) : Int64 × mv_M := foO (foO h a 3).2 d 3
noncomputable def dsV (h : mv_M) (a d : Nat) : Int32 := if (dsA h a).1 < 0 ∨ (dsB h a d).1 < 0 then -2 else cfF 200 1 (pwF (dsA h a).1 (gn (dsB h a d).2 (37 + 6 * a + 1))) ((dsB h a d).2.2.1 (37 + 6 * a) 3) (pwF (dsB h a d).1 (gn (dsB h a d).2 (37 + 6 * a + 1))) ((dsB h a d).2.2.1 (37 + 6 * d) 3)
noncomputable def sX6_denser (kd : List (Nat × Nat)) : mv_S := ms_aii (fun b _ _ h => b = 0 ∧ clI kd h) (fun _ a b h v h' => (¬ saK h a b ∧ v = some (.int (-3)) ∧ h' = h) ∨ (saK h a b ∧ v = some (.int (dsV h a.toNatClampNeg b.toNatClampNeg)) ∧ h' = (dsB h a.toNatClampNeg b.toNatClampNeg).2))
noncomputable def csX6_denser (kd : List (Nat × Nat)) : mv_CS := (mv_cc 103 6 1 (sX6_latticeAt kd) (mv_cc 139 3 0 (sX3_ways kd) (mv_cc 113 6 2 (sX6_factOf kd) (mv_cc 183 99 2 (sX6_power kd) (mv_cc 191 99 4 (sX6_compareFractions kd) mv_c0)))))
theorem oX6_denser {l : Launch} {b : Nat} {ad : Nat → Nat} {D : va_G} {cA : Nat → ClassId} {kd : List (Nat × Nat)} (had : ∀ i, i < kd.length → ad i = b + i) : mv_Own l (mv_room 20) b ad D cA kd RX6 flX6 cIX6 cLX6 (csX6_denser kd) := (mv_oV lRX6_103 zX6_latticeAt rfl (by decide) (ctX6_latticeAt had) ⟨by decide, by decide⟩ (mv_oV lRX6_139 zX3_ways rfl (by decide) (ctX3_ways had) ⟨by decide, by decide⟩ (mv_oV lRX6_113 zX6_factOf rfl (by decide) (ctX6_factOf had) ⟨by decide, by decide⟩ (mv_oS lRX6_183 zX6_power (ctX6_power had) ⟨by decide, by decide⟩ (mv_oS lRX6_191 zX6_compareFractions (ctX6_compareFractions had) ⟨by decide, by decide⟩ (mv_o0 flX6_ok cIX6_ok cLX6_ok))))))
set_option maxRecDepth 100000 in
set_option maxHeartbeats 4000000 in
theorem ctX6_denser {l : Launch} {b : Nat} {ad : Nat → Nat} {D : va_G} {cA : Nat → ClassId} {kd : List (Nat × Nat)} (had : ∀ i, i < kd.length → ad i = b + i) : mv_Ct l b ad D cA kd yX6_denser cX6_denser 10 (some .int) 20 (sX6_denser kd) := by
  refine mv_introF (rk := 1) tX6_denser (mv_pf plRX6) kX6_denser had ⟨(fun e => by cases e), (fun _ => rfl), (fun e => by cases e), (fun e => by cases e), (fun e => by cases e)⟩ (oX6_denser had) ?_
  intro h as hp
  obtain ⟨x0, x1, x2, rfl, hq⟩ := ms_aii_inv hp
  refine ⟨Nat.le_of_ble_eq_true rfl, fun X hX => ?_⟩
  show X 0 [some (.ref x0), some (.int x1), some (.int x2), none, none, none, none, none, none, none] [] h
  obtain ⟨rfl, hI⟩ := hq
  have hS := hI.1
  obtain ⟨⟨⟨K1, K2⟩, ⟨⟨p0, p1, p2, p3, p4, p5, p6⟩, pls, psh⟩, hC⟩, ⟨g1, g3, g5⟩, ⟨hw, hu, hr⟩, ⟨b29, b33⟩, hla⟩ := id hS
  by_cases hin : inR (sbC h) x1
  · have eA : sbAt h x1 = .ref (37 + 6 * x1.toNatClampNeg) := if_pos hin
    obtain ⟨a, ha, rfl⟩ := inR_nat hin (by have := hC.2; omega)
    have ca : (nI a).toNatClampNeg = a := nI_clamp (by have := hC.2; omega)
    rw [ca] at eA
    have hLa := hla a (by have := hC.2; omega)
    have isa : isLa h (37 + 6 * a) := ⟨a, ha, rfl⟩
    by_cases hin2 : inR (sbC h) x2
    · have eB : sbAt h x2 = .ref (37 + 6 * x2.toNatClampNeg) := if_pos hin2
      obtain ⟨d, hdl, rfl⟩ := inR_nat hin2 (by have := hC.2; omega)
      have cd : (nI d).toNatClampNeg = d := nI_clamp (by have := hC.2; omega)
      rw [cd] at eB
      have hLd := hla d (by have := hC.2; omega)
      have iff1 : (h.1 (37 + 6 * a + 1) 0 = h.1 (37 + 6 * d + 1) 0) ↔ gn h (37 + 6 * a + 1) = gn h (37 + 6 * d + 1) := by
        refine ⟨fun z => congrArg Int32.toNatClampNeg z, fun z => ?_⟩
        rw [hLa.2.2.2.2.2.1.2.2.2.1, hLd.2.2.2.2.2.1.2.2.2.1, z]
      have i3 : isN 3 7 := by unfold isN; decide
      have c3 : Int32.toNatClampNeg 3 = 3 := by decide
      obtain ⟨hI2, q2, -, -⟩ := foO_I (w := 3) hI ha
      have hA : foO h a 3 = dsA h a := rfl
      rw [hA] at hI2 q2
      have isd : isLa (dsA h a).2 (37 + 6 * d) := ⟨d, by rw [q2]; exact hdl, rfl⟩
      obtain ⟨hI3, -, -, -⟩ := foO_I (h := (dsA h a).2) (l := d) (w := 3) hI2 (by rw [q2]; exact hdl)
      have hB : foO (dsA h a).2 d 3 = dsB h a d := rfl
      rw [hB] at hI3
      have hLa3 := hI3.1.2.2.2.2 a (by have := hC.2; omega)
      have hLd3 := hI3.1.2.2.2.2 d (by have := hC.2; omega)
      have gnE : (dsB h a d).2.1 (37 + 6 * a + 1) 0 = nI (gn (dsB h a d).2 (37 + 6 * a + 1)) := hLa3.2.2.2.2.2.1.2.2.2.1
      have gn5 : isN (nI (gn (dsB h a d).2 (37 + 6 * a + 1))) 5 := isN.nI (by have := hLa3.2.2.2.2.2.1.2.2.2.2; omega) (by omega)
      have gnC : (nI (gn (dsB h a d).2 (37 + 6 * a + 1))).toNatClampNeg = gn (dsB h a d).2 (37 + 6 * a + 1) := nI_clamp (by have := hLa3.2.2.2.2.2.1.2.2.2.2; omega)
      have eV : dsV h a d = if (dsA h a).1 < 0 ∨ (dsB h a d).1 < 0 then -2 else cfF 200 1 (pwF (dsA h a).1 (gn (dsB h a d).2 (37 + 6 * a + 1))) ((dsB h a d).2.2.1 (37 + 6 * a) 3) (pwF (dsB h a d).1 (gn (dsB h a d).2 (37 + 6 * a + 1))) ((dsB h a d).2.2.1 (37 + 6 * d) 3) := by unfold dsV; rfl
      generalize hWA : dsA h a = WA at *
      generalize hWB : dsB h a d = WB at *
      refine mv_go hX 80 ?_
      simp only [mv_wps, mv_exq, mv_exr, mv_exn, mv_xg, mv_xpi, mv_xpl, mv_xpr, mv_xc, mv_xc2, mv_xs, mv_9z, mv_cqs, mv_calls, mv_lgz, mv_stz, mv_kz, mv_cz, mv_fvs, mv_ats, mv_ics, mv_rz, mv_tz, mv_cns, mv_nfs, mv_fins, mv_det, mv_cc, mv_c0, Nat.reduceAdd, Nat.reduceEqDiff, Nat.reduceLT, Nat.reduceLeDiff, Nat.reduceSub, reduceIte, decide_false, decide_true, Bool.false_eq_true, List.map_cons, List.map_nil, List.sum_cons, List.sum_nil, true_and, and_true, true_or, or_true, false_or, or_false, false_and, and_false, true_implies, false_implies, implies_true, not_true_eq_false, not_false_eq_true, lg_cmp_ge, lg_cmp_le, lg_cmp_gt, lg_cmp_lt, lg_cmp_eq, qX6_denser, flX6s, cIX6s, cLX6s, csX6_denser, sX6_denser, sX6_latticeAt, sX3_ways, sX6_factOf, sX6_power, sX6_compareFractions, ms_a, ms_aai, ms_ai, ms_aii, ms_li, ms_llll, K1, hS, hI, eA, eB, hLa, hLa.1, hLd, hLd.1, isa, isd, ca, cd, nLa_37, hA, hB, iff1, i3, c3, hI2, hLa3, gnE, gn5, gnC, hWB]
      refine ⟨fun z => ?_, fun z => ?_⟩
      · have hok : saK h (nI a) (nI d) := ⟨⟨hin, hin2⟩, by rw [ca, cd]; exact z⟩
        refine ⟨fun y => ?_, fun y => ⟨fun w => ?_, fun w => ?_⟩⟩
        · exact Or.inr ⟨hok, by rw [eV, if_pos (Or.inl y)]⟩
        · have nn : ¬ (WA.1 < 0 ∨ WB.1 < 0) := fun q => q.elim y (Int64.not_lt.mpr w)
          refine Or.inr ⟨hok, ?_⟩
          rw [eV, if_neg nn]
        · exact Or.inr ⟨hok, by rw [eV, if_pos (Or.inr (Int64.not_le.mp w))]⟩
      · exact Or.inl (fun q => z (by have := q.2; rw [ca, cd] at this; exact this))
    · have eB : sbAt h x2 = .null := if_neg hin2
      refine mv_go hX 60 ?_
      simp only [mv_wps, mv_exq, mv_exr, mv_exn, mv_xg, mv_xpi, mv_xpl, mv_xpr, mv_xc, mv_xc2, mv_xs, mv_9z, mv_cqs, mv_calls, mv_lgz, mv_stz, mv_kz, mv_cz, mv_fvs, mv_ats, mv_ics, mv_rz, mv_tz, mv_cns, mv_nfs, mv_fins, mv_det, mv_cc, mv_c0, Nat.reduceAdd, Nat.reduceEqDiff, Nat.reduceLT, Nat.reduceLeDiff, Nat.reduceSub, reduceIte, decide_false, decide_true, Bool.false_eq_true, List.map_cons, List.map_nil, List.sum_cons, List.sum_nil, true_and, and_true, true_or, or_true, false_or, or_false, false_and, and_false, true_implies, false_implies, implies_true, not_true_eq_false, not_false_eq_true, lg_cmp_ge, lg_cmp_le, lg_cmp_gt, lg_cmp_lt, lg_cmp_eq, qX6_denser, flX6s, cIX6s, cLX6s, csX6_denser, sX6_denser, sX6_latticeAt, sX3_ways, sX6_factOf, sX6_power, sX6_compareFractions, ms_a, ms_aai, ms_ai, ms_aii, ms_li, ms_llll, K1, hS, eA, eB]
      exact Or.inl (fun q => hin2 q.1.2)
  · have eA : sbAt h x1 = .null := if_neg hin
    have eB : sbAt h x2 = .null ∨ ∃ r, sbAt h x2 = .ref r := by
      unfold sbAt
      split
      · exact Or.inr ⟨_, rfl⟩
      · exact Or.inl rfl
    rcases eB with eB | ⟨r, eB⟩
    · refine mv_go hX 60 ?_
      simp only [mv_wps, mv_exq, mv_exr, mv_exn, mv_xg, mv_xpi, mv_xpl, mv_xpr, mv_xc, mv_xc2, mv_xs, mv_9z, mv_cqs, mv_calls, mv_lgz, mv_stz, mv_kz, mv_cz, mv_fvs, mv_ats, mv_ics, mv_rz, mv_tz, mv_cns, mv_nfs, mv_fins, mv_det, mv_cc, mv_c0, Nat.reduceAdd, Nat.reduceEqDiff, Nat.reduceLT, Nat.reduceLeDiff, Nat.reduceSub, reduceIte, decide_false, decide_true, Bool.false_eq_true, List.map_cons, List.map_nil, List.sum_cons, List.sum_nil, true_and, and_true, true_or, or_true, false_or, or_false, false_and, and_false, true_implies, false_implies, implies_true, not_true_eq_false, not_false_eq_true, lg_cmp_ge, lg_cmp_le, lg_cmp_gt, lg_cmp_lt, lg_cmp_eq, qX6_denser, flX6s, cIX6s, cLX6s, csX6_denser, sX6_denser, sX6_latticeAt, sX3_ways, sX6_factOf, sX6_power, sX6_compareFractions, ms_a, ms_aai, ms_ai, ms_aii, ms_li, ms_llll, K1, hS, eA, eB]
      exact Or.inl (fun q => hin q.1.1)
    · refine mv_go hX 60 ?_
      simp only [mv_wps, mv_exq, mv_exr, mv_exn, mv_xg, mv_xpi, mv_xpl, mv_xpr, mv_xc, mv_xc2, mv_xs, mv_9z, mv_cqs, mv_calls, mv_lgz, mv_stz, mv_kz, mv_cz, mv_fvs, mv_ats, mv_ics, mv_rz, mv_tz, mv_cns, mv_nfs, mv_fins, mv_det, mv_cc, mv_c0, Nat.reduceAdd, Nat.reduceEqDiff, Nat.reduceLT, Nat.reduceLeDiff, Nat.reduceSub, reduceIte, decide_false, decide_true, Bool.false_eq_true, List.map_cons, List.map_nil, List.sum_cons, List.sum_nil, true_and, and_true, true_or, or_true, false_or, or_false, false_and, and_false, true_implies, false_implies, implies_true, not_true_eq_false, not_false_eq_true, lg_cmp_ge, lg_cmp_le, lg_cmp_gt, lg_cmp_lt, lg_cmp_eq, qX6_denser, flX6s, cIX6s, cLX6s, csX6_denser, sX6_denser, sX6_latticeAt, sX3_ways, sX6_factOf, sX6_power, sX6_compareFractions, ms_a, ms_aai, ms_ai, ms_aii, ms_li, ms_llll, K1, hS, eA, eB]
      exact Or.inl (fun q => hin q.1.1)
