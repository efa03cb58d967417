/-! The bench's calls that make a lattice: sum, within. -/
def wnOK (h : mv_M) (l : Int32) : Prop := rdOK h l ∧ h.1 1 0 = h.1 (37 + 6 * l.toNatClampNeg + 1) 0 ∧ ¬ gDet h 1 (h.1 1 0) = 0
def sX6_within (kd : List (Nat × Nat)) : mv_S := ms_ai (fun b _ h => b = 0 ∧ sbOk kd h) (fun _ l h v h' => (¬ wnOK h l ∧ v = some (.int (-1)) ∧ h' = h) ∨ (wnOK h l ∧ ∃ h1, gRow (37 + 6 * sbC h + 1) (gOpen h (37 + 6 * sbC h + 1) (h.1 1 0)) h1 (fun i k => i < gn h 1 ∧ k < gn h 1) (fun i k => gMt h (37 + 6 * l.toNatClampNeg + 1) 1 (nI i) (nI k) (gn h (37 + 6 * l.toNatClampNeg + 1))) ∧ kpP h1 (37 + 6 * sbC h) v h'))
noncomputable def csX6_within (kd : List (Nat × Nat)) : mv_CS := (mv_cc 103 6 1 (sX6_latticeAt kd) (mv_cc 81 6 0 (sX6_freeLattice kd) (mv_cc 156 1 0 (sX1_lines kd) (mv_cc 139 3 0 (sX3_ways kd) (mv_cc 159 1 0 (sX1_determinant kd) (mv_cc 174 1 2 (sX1_openMeetings kd) (mv_cc 99 6 1 (sX6_keepIfSmall kd) mv_c0)))))))
theorem oX6_within {l : Launch} {b : Nat} {ad : Nat → Nat} {D : va_G} {cA : Nat → ClassId} {kd : List (Nat × Nat)} (had : ∀ i, i < kd.length → ad i = b + i) : mv_Own l (mv_room 12) b ad D cA kd RX6 flX6 cIX6 cLX6 (csX6_within kd) := (mv_oV lRX6_103 zX6_latticeAt rfl (by decide) (ctX6_latticeAt had) ⟨by decide, by decide⟩ (mv_oV lRX6_81 zX6_freeLattice rfl (by decide) (ctX6_freeLattice had) ⟨by decide, by decide⟩ (mv_oV lRX6_156 zX1_lines rfl (by decide) (ctX1_lines had) ⟨by decide, by decide⟩ (mv_oV lRX6_139 zX3_ways rfl (by decide) (ctX3_ways had) ⟨by decide, by decide⟩ (mv_oV lRX6_159 zX1_determinant rfl (by decide) (ctX1_determinant had) ⟨by decide, by decide⟩ (mv_oV lRX6_174 zX1_openMeetings rfl (by decide) (ctX1_openMeetings had) ⟨by decide, by decide⟩ (mv_oV lRX6_99 zX6_keepIfSmall rfl (by decide) (ctX6_keepIfSmall had) ⟨by decide, by decide⟩ (mv_o0 flX6_ok cIX6_ok cLX6_ok))))))))
set_option maxRecDepth 100000 in
set_option maxHeartbeats 4000000 in
theorem ctX6_within {l : Launch} {b : Nat} {ad : Nat → Nat} {D : va_G} {cA : Nat → ClassId} {kd : List (Nat × Nat)} (had : ∀ i, i < kd.length → ad i = b + i) : mv_Ct l b ad D cA kd yX6_within cX6_within 4 (some .int) 12 (sX6_within kd) := by
  refine mv_introF (rk := 1) tX6_within (mv_pf plRX6) kX6_within had ⟨(fun e => by cases e), (fun _ => rfl), (fun e => by cases e), (fun e => by cases e), (fun e => by cases e)⟩ (oX6_within had) ?_
  intro h as hp
  obtain ⟨x0, x1, rfl, hq⟩ := ms_ai_inv hp
  refine ⟨Nat.le_of_ble_eq_true rfl, fun X hX => ?_⟩
  show X 0 [some (.ref x0), some (.int x1), none, none] [] h
  obtain ⟨rfl, hS⟩ := hq
  obtain ⟨⟨⟨K1, K2⟩, ⟨⟨p0, p1, p2, p3, p4, p5, p6⟩, pls, psh⟩, hC⟩, ⟨g1, g3, g5⟩, ⟨hw, hu, hr⟩, ⟨b29, b33⟩, hla⟩ := id hS
  by_cases hok : rdOK h x1
  · obtain ⟨hin, hf⟩ := id hok
    have eF : sbFree h = .ref (37 + 6 * sbC h) := if_pos hf
    have eA : sbAt h x1 = .ref (37 + 6 * x1.toNatClampNeg) := if_pos hin
    obtain ⟨a, ha, rfl⟩ := inR_nat hin (by have := hC.2; omega)
    have ca : (nI a).toNatClampNeg = a := nI_clamp (by have := hC.2; omega)
    rw [ca] at eA
    have hLa := hla a (by have := hC.2; omega)
    obtain ⟨a1, a2, a3, a4, a5, a6, a7⟩ := id hLa
    have hA := hla (sbC h) hf
    obtain ⟨l1, l2, l3, l4, l5, l6, l7⟩ := id hA
    have ne1 : 37 + 6 * a + 1 ≠ 37 + 6 * sbC h + 1 := by omega
    have ne2 : 1 ≠ 37 + 6 * sbC h + 1 := by omega
    have gnE : h.1 1 0 = nI (gn h 1) := g1.2.2.2.1
    have hCh : gCh (37 + 6 * sbC h + 1) h (gOpen h (37 + 6 * sbC h + 1) (h.1 1 0)) := by
      rw [gnE]
      exact gOpen_Ch g1.2.2.2.2
    refine mv_go hX 60 ?_
    simp only [mv_wps, mv_exq, mv_exr, mv_exn, mv_xg, mv_xpi, mv_xpl, mv_xpr, mv_xc, mv_xc2, mv_xs, mv_9z, mv_cqs, mv_calls, mv_lgz, mv_stz, mv_kz, mv_cz, mv_fvs, mv_ats, mv_ics, mv_rz, mv_tz, mv_cns, mv_nfs, mv_fins, mv_det, mv_cc, mv_c0, Nat.reduceAdd, Nat.reduceEqDiff, Nat.reduceLT, Nat.reduceLeDiff, Nat.reduceSub, reduceIte, decide_false, decide_true, Bool.false_eq_true, List.map_cons, List.map_nil, List.sum_cons, List.sum_nil, true_and, and_true, true_or, or_true, false_or, or_false, false_and, and_false, true_implies, false_implies, implies_true, not_true_eq_false, not_false_eq_true, lg_cmp_ge, lg_cmp_le, lg_cmp_gt, lg_cmp_lt, lg_cmp_eq, qX6_within, flX6s, cIX6s, cLX6s, csX6_within, sX6_within, sX6_latticeAt, sX6_freeLattice, sX1_lines, sX3_ways, sX1_determinant, sX1_openMeetings, sX6_keepIfSmall, ms_a, ms_aa, ms_aaa, ms_ai, K1, hS, eF, eA, hLa, p0, g1, g1.1, l1, l3, l6, l6.1, a1, a3, a6, a6.1, ca]
    refine ⟨fun z1 => Or.inl (fun q => z1 (by have := q.2.1; rw [ca] at this; exact this)), fun z1 => ⟨fun z2 => ⟨⟨ne1, ne2⟩, ?_⟩, fun z2 => ?_⟩⟩
    · have hok2 : wnOK h (nI a) := ⟨hok, by rw [ca]; exact Classical.not_not.mp z1, z2⟩
      rintro v h1 ⟨rfl, hrow⟩
      have hCh2 := hCh.tr (gRow_Ch (hCh.gok l6) hrow)
      have hAC := hCh2.la hA
      obtain ⟨c7, cC⟩ := hCh2.c (by omega)
      simp only [mv_wps, mv_exq, mv_exr, mv_exn, mv_xg, mv_xpi, mv_xpl, mv_xpr, mv_xc, mv_xc2, mv_xs, mv_9z, mv_cqs, mv_calls, mv_lgz, mv_stz, mv_kz, mv_cz, mv_fvs, mv_ats, mv_ics, mv_rz, mv_tz, mv_cns, mv_nfs, mv_fins, mv_det, mv_cc, mv_c0, Nat.reduceAdd, Nat.reduceEqDiff, Nat.reduceLT, Nat.reduceLeDiff, Nat.reduceSub, reduceIte, decide_false, decide_true, Bool.false_eq_true, List.map_cons, List.map_nil, List.sum_cons, List.sum_nil, true_and, and_true, true_or, or_true, false_or, or_false, false_and, and_false, true_implies, false_implies, implies_true, not_true_eq_false, not_false_eq_true, lg_cmp_ge, lg_cmp_le, lg_cmp_gt, lg_cmp_lt, lg_cmp_eq, qX6_within, flX6s, cIX6s, cLX6s, csX6_within, sX6_within, sX6_latticeAt, sX6_freeLattice, sX1_lines, sX3_ways, sX1_determinant, sX1_openMeetings, sX6_keepIfSmall, ms_a, ms_aa, ms_aaa, ms_ai, K1, l1, ca, hS.1.1, c7, cC, hC, hAC]
      rintro v h' (⟨w1, rfl, hh⟩ | ⟨w1, rfl, h2, w2, hh⟩)
      · simp only [mv_wps, mv_exq, mv_exr, mv_exn, mv_xg, mv_xpi, mv_xpl, mv_xpr, mv_xc, mv_xc2, mv_xs, mv_9z, mv_cqs, mv_calls, mv_lgz, mv_stz, mv_kz, mv_cz, mv_fvs, mv_ats, mv_ics, mv_rz, mv_tz, mv_cns, mv_nfs, mv_fins, mv_det, mv_cc, mv_c0, Nat.reduceAdd, Nat.reduceEqDiff, Nat.reduceLT, Nat.reduceLeDiff, Nat.reduceSub, reduceIte, decide_false, decide_true, Bool.false_eq_true, List.map_cons, List.map_nil, List.sum_cons, List.sum_nil, true_and, and_true, true_or, or_true, false_or, or_false, false_and, and_false, true_implies, false_implies, implies_true, not_true_eq_false, not_false_eq_true, lg_cmp_ge, lg_cmp_le, lg_cmp_gt, lg_cmp_lt, lg_cmp_eq, qX6_within, flX6s, cIX6s, cLX6s, csX6_within, sX6_within, sX6_latticeAt, sX6_freeLattice, sX1_lines, sX3_ways, sX1_determinant, sX1_openMeetings, sX6_keepIfSmall, ms_a, ms_aa, ms_aaa, ms_ai, ca]
        exact Or.inr ⟨hok2, h1, hrow, Or.inl ⟨w1, rfl, hh⟩⟩
      · simp only [mv_wps, mv_exq, mv_exr, mv_exn, mv_xg, mv_xpi, mv_xpl, mv_xpr, mv_xc, mv_xc2, mv_xs, mv_9z, mv_cqs, mv_calls, mv_lgz, mv_stz, mv_kz, mv_cz, mv_fvs, mv_ats, mv_ics, mv_rz, mv_tz, mv_cns, mv_nfs, mv_fins, mv_det, mv_cc, mv_c0, Nat.reduceAdd, Nat.reduceEqDiff, Nat.reduceLT, Nat.reduceLeDiff, Nat.reduceSub, reduceIte, decide_false, decide_true, Bool.false_eq_true, List.map_cons, List.map_nil, List.sum_cons, List.sum_nil, true_and, and_true, true_or, or_true, false_or, or_false, false_and, and_false, true_implies, false_implies, implies_true, not_true_eq_false, not_false_eq_true, lg_cmp_ge, lg_cmp_le, lg_cmp_gt, lg_cmp_lt, lg_cmp_eq, qX6_within, flX6s, cIX6s, cLX6s, csX6_within, sX6_within, sX6_latticeAt, sX6_freeLattice, sX1_lines, sX3_ways, sX1_determinant, sX1_openMeetings, sX6_keepIfSmall, ms_a, ms_aa, ms_aaa, ms_ai, ca]
        exact Or.inr ⟨hok2, h1, hrow, Or.inr ⟨w1, by rw [cC], h2, w2, by rw [cC]; exact hh⟩⟩
    · exact Or.inl (fun q => q.2.2 (Classical.not_not.mp z2))
  · have hno : ¬ wnOK h x1 := fun z => hok z.1
    by_cases hin : inR (sbC h) x1
    · have hf : ¬ sbC h < 20 := fun z => hok ⟨hin, z⟩
      have eF : sbFree h = .null := if_neg hf
      have eA : sbAt h x1 = .ref (37 + 6 * x1.toNatClampNeg) := if_pos hin
      refine mv_go hX 60 ?_
      simp only [mv_wps, mv_exq, mv_exr, mv_exn, mv_xg, mv_xpi, mv_xpl, mv_xpr, mv_xc, mv_xc2, mv_xs, mv_9z, mv_cqs, mv_calls, mv_lgz, mv_stz, mv_kz, mv_cz, mv_fvs, mv_ats, mv_ics, mv_rz, mv_tz, mv_cns, mv_nfs, mv_fins, mv_det, mv_cc, mv_c0, Nat.reduceAdd, Nat.reduceEqDiff, Nat.reduceLT, Nat.reduceLeDiff, Nat.reduceSub, reduceIte, decide_false, decide_true, Bool.false_eq_true, List.map_cons, List.map_nil, List.sum_cons, List.sum_nil, true_and, and_true, true_or, or_true, false_or, or_false, false_and, and_false, true_implies, false_implies, implies_true, not_true_eq_false, not_false_eq_true, lg_cmp_ge, lg_cmp_le, lg_cmp_gt, lg_cmp_lt, lg_cmp_eq, qX6_within, flX6s, cIX6s, cLX6s, csX6_within, sX6_within, sX6_latticeAt, sX6_freeLattice, sX1_lines, sX3_ways, sX1_determinant, sX1_openMeetings, sX6_keepIfSmall, ms_a, ms_aa, ms_aaa, ms_ai, K1, hS, eF, eA]
      exact Or.inl hno
    · have eA : sbAt h x1 = .null := if_neg hin
      by_cases hf : sbC h < 20
      · have eF : sbFree h = .ref (37 + 6 * sbC h) := if_pos hf
        refine mv_go hX 60 ?_
        simp only [mv_wps, mv_exq, mv_exr, mv_exn, mv_xg, mv_xpi, mv_xpl, mv_xpr, mv_xc, mv_xc2, mv_xs, mv_9z, mv_cqs, mv_calls, mv_lgz, mv_stz, mv_kz, mv_cz, mv_fvs, mv_ats, mv_ics, mv_rz, mv_tz, mv_cns, mv_nfs, mv_fins, mv_det, mv_cc, mv_c0, Nat.reduceAdd, Nat.reduceEqDiff, Nat.reduceLT, Nat.reduceLeDiff, Nat.reduceSub, reduceIte, decide_false, decide_true, Bool.false_eq_true, List.map_cons, List.map_nil, List.sum_cons, List.sum_nil, true_and, and_true, true_or, or_true, false_or, or_false, false_and, and_false, true_implies, false_implies, implies_true, not_true_eq_false, not_false_eq_true, lg_cmp_ge, lg_cmp_le, lg_cmp_gt, lg_cmp_lt, lg_cmp_eq, qX6_within, flX6s, cIX6s, cLX6s, csX6_within, sX6_within, sX6_latticeAt, sX6_freeLattice, sX1_lines, sX3_ways, sX1_determinant, sX1_openMeetings, sX6_keepIfSmall, ms_a, ms_aa, ms_aaa, ms_ai, K1, hS, eF, eA]
        exact Or.inl hno
      · have eF : sbFree h = .null := if_neg hf
        refine mv_go hX 60 ?_
        simp only [mv_wps, mv_exq, mv_exr, mv_exn, mv_xg, mv_xpi, mv_xpl, mv_xpr, mv_xc, mv_xc2, mv_xs, mv_9z, mv_cqs, mv_calls, mv_lgz, mv_stz, mv_kz, mv_cz, mv_fvs, mv_ats, mv_ics, mv_rz, mv_tz, mv_cns, mv_nfs, mv_fins, mv_det, mv_cc, mv_c0, Nat.reduceAdd, Nat.reduceEqDiff, Nat.reduceLT, Nat.reduceLeDiff, Nat.reduceSub, reduceIte, decide_false, decide_true, Bool.false_eq_true, List.map_cons, List.map_nil, List.sum_cons, List.sum_nil, true_and, and_true, true_or, or_true, false_or, or_false, false_and, and_false, true_implies, false_implies, implies_true, not_true_eq_false, not_false_eq_true, lg_cmp_ge, lg_cmp_le, lg_cmp_gt, lg_cmp_lt, lg_cmp_eq, qX6_within, flX6s, cIX6s, cLX6s, csX6_within, sX6_within, sX6_latticeAt, sX6_freeLattice, sX1_lines, sX3_ways, sX1_determinant, sX1_openMeetings, sX6_keepIfSmall, ms_a, ms_aa, ms_aaa, ms_ai, K1, hS, eF, eA]
        exact Or.inl hno
def smOK (h : mv_M) (a b : Int32) : Prop := (inR (sbC h) a ∧ inR (sbC h) b ∧ sbC h < 20) ∧ gn h (37 + 6 * a.toNatClampNeg + 1) + gn h (37 + 6 * b.toNatClampNeg + 1) ≤ 4
def smR (h : mv_M) (a b g : Nat) (h2 : mv_M) : Prop := ∃ h1, gRow g (gOpen h g (nI (gn h a + gn h b))) h1 (fun r q => r < gn h a ∧ q < gn h a) (fun r q => gE h a r q) ∧ gRow g h1 h2 (fun r q => (gn h a ≤ r ∧ r < gn h a + gn h b) ∧ gn h a ≤ q ∧ q < gn h a + gn h b) (fun r q => gE h b (r - gn h a) (q - gn h a))
def sX6_sum (kd : List (Nat × Nat)) : mv_S := ms_aii (fun b _ _ h => b = 0 ∧ sbOk kd h) (fun _ a b h v h' => (¬ smOK h a b ∧ v = some (.int (-1)) ∧ h' = h) ∨ (smOK h a b ∧ ∃ h1, smR h (37 + 6 * a.toNatClampNeg + 1) (37 + 6 * b.toNatClampNeg + 1) (37 + 6 * sbC h + 1) h1 ∧ kpP h1 (37 + 6 * sbC h) v h'))
noncomputable def csX6_sum (kd : List (Nat × Nat)) : mv_CS := (mv_cc 103 6 1 (sX6_latticeAt kd) (mv_cc 81 6 0 (sX6_freeLattice kd) (mv_cc 139 3 0 (sX3_ways kd) (mv_cc 64 1 1 (sX1_open kd) (mv_cc 166 1 2 (sX1_lay kd) (mv_cc 99 6 1 (sX6_keepIfSmall kd) mv_c0))))))
theorem oX6_sum {l : Launch} {b : Nat} {ad : Nat → Nat} {D : va_G} {cA : Nat → ClassId} {kd : List (Nat × Nat)} (had : ∀ i, i < kd.length → ad i = b + i) : mv_Own l (mv_room 12) b ad D cA kd RX6 flX6 cIX6 cLX6 (csX6_sum kd) := (mv_oV lRX6_103 zX6_latticeAt rfl (by decide) (ctX6_latticeAt had) ⟨by decide, by decide⟩ (mv_oV lRX6_81 zX6_freeLattice rfl (by decide) (ctX6_freeLattice had) ⟨by decide, by decide⟩ (mv_oV lRX6_139 zX3_ways rfl (by decide) (ctX3_ways had) ⟨by decide, by decide⟩ (mv_oV lRX6_64 zX1_open rfl (by decide) (ctX1_open had) ⟨by decide, by decide⟩ (mv_oV lRX6_166 zX1_lay rfl (by decide) (ctX1_lay had) ⟨by decide, by decide⟩ (mv_oV lRX6_99 zX6_keepIfSmall rfl (by decide) (ctX6_keepIfSmall had) ⟨by decide, by decide⟩ (mv_o0 flX6_ok cIX6_ok cLX6_ok)))))))
set_option maxRecDepth 100000 in
set_option maxHeartbeats 4000000 in
theorem ctX6_sum {l : Launch} {b : Nat} {ad : Nat → Nat} {D : va_G} {cA : Nat → ClassId} {kd : List (Nat × Nat)} (had : ∀ i, i < kd.length → ad i = b + i) : mv_Ct l b ad D cA kd yX6_sum cX6_sum 6 (some .int) 12 (sX6_sum kd) := by
  refine mv_introF (rk := 1) tX6_sum (mv_pf plRX6) kX6_sum had ⟨(fun e => by cases e), (fun _ => rfl), (fun e => by cases e), (fun e => by cases e), (fun e => by cases e)⟩ (oX6_sum had) ?_
  intro h as hp
  obtain ⟨x0, x1, x2, rfl, hq⟩ := ms_aii_inv hp
  refine ⟨Nat.le_of_ble_eq_true rfl, fun X hX => ?_⟩
  show X 0 [some (.ref x0), some (.int x1), some (.int x2), none, none, none] [] h
  obtain ⟨rfl, hS⟩ := hq
  obtain ⟨⟨⟨K1, K2⟩, ⟨⟨p0, p1, p2, p3, p4, p5, p6⟩, pls, psh⟩, hC⟩, ⟨g1, g3, g5⟩, ⟨hw, hu, hr⟩, ⟨b29, b33⟩, hla⟩ := id hS
  by_cases hok : inR (sbC h) x1 ∧ inR (sbC h) x2 ∧ sbC h < 20
  · obtain ⟨hin, hin2, hf⟩ := id hok
    have eF : sbFree h = .ref (37 + 6 * sbC h) := if_pos hf
    have eA : sbAt h x1 = .ref (37 + 6 * x1.toNatClampNeg) := if_pos hin
    have eB : sbAt h x2 = .ref (37 + 6 * x2.toNatClampNeg) := if_pos hin2
    obtain ⟨a, ha, rfl⟩ := inR_nat hin (by have := hC.2; omega)
    obtain ⟨d, hdl, rfl⟩ := inR_nat hin2 (by have := hC.2; omega)
    have ca : (nI a).toNatClampNeg = a := nI_clamp (by have := hC.2; omega)
    have cd : (nI d).toNatClampNeg = d := nI_clamp (by have := hC.2; omega)
    rw [ca] at eA
    rw [cd] at eB
    have hLa := hla a (by have := hC.2; omega)
    have hLd := hla d (by have := hC.2; omega)
    obtain ⟨a1, a2, a3, a4, a5, a6, a7⟩ := id hLa
    obtain ⟨e1, e2, e3, e4, e5, e6, e7⟩ := id hLd
    have hA := hla (sbC h) hf
    obtain ⟨l1, l2, l3, l4, l5, l6, l7⟩ := id hA
    have ne1 : ¬ 37 + 6 * sbC h + 1 = 37 + 6 * a + 1 := by omega
    have ne2 : ¬ 37 + 6 * sbC h + 1 = 37 + 6 * d + 1 := by omega
    have n1 := a6.2.2.2.2
    have n2 := e6.2.2.2.2
    have eN : h.1 (37 + 6 * a + 1) 0 + h.1 (37 + 6 * d + 1) 0 = nI (gn h (37 + 6 * a + 1) + gn h (37 + 6 * d + 1)) := by
      rw [a6.2.2.2.1, e6.2.2.2.1, nI_add]
    have i4 : (4 : Int32) = nI 4 := by decide
    by_cases hle : gn h (37 + 6 * a + 1) + gn h (37 + 6 * d + 1) ≤ 4
    · have hok2 : smOK h (nI a) (nI d) := ⟨hok, by rw [ca, cd]; exact hle⟩
      have le4 : nI (gn h (37 + 6 * a + 1) + gn h (37 + 6 * d + 1)) ≤ 4 := by rw [i4, nI_leI (by omega) (by omega)]; exact hle
      have hCh : gCh (37 + 6 * sbC h + 1) h (gOpen h (37 + 6 * sbC h + 1) (nI (gn h (37 + 6 * a + 1) + gn h (37 + 6 * d + 1)))) := gOpen_Ch hle
      obtain ⟨-, oN⟩ := gOpen_n (h := h) (g := 37 + 6 * sbC h + 1) hle
      have oA : gn (gOpen h (37 + 6 * sbC h + 1) (nI (gn h (37 + 6 * a + 1) + gn h (37 + 6 * d + 1)))) (37 + 6 * a + 1) = gn h (37 + 6 * a + 1) := congrArg Int32.toNatClampNeg (hCh.2.1 _ 0 (by omega))
      have oD : gn (gOpen h (37 + 6 * sbC h + 1) (nI (gn h (37 + 6 * a + 1) + gn h (37 + 6 * d + 1)))) (37 + 6 * d + 1) = gn h (37 + 6 * d + 1) := congrArg Int32.toNatClampNeg (hCh.2.1 _ 0 (by omega))
      have oR : (gOpen h (37 + 6 * sbC h + 1) (nI (gn h (37 + 6 * a + 1) + gn h (37 + 6 * d + 1)))).2.2 = h.2.2 := hCh.1
      have oL := hCh.gok l6
      have oGA := hCh.gok a6
      have oGD := hCh.gok e6
      have oEA : ∀ r c, gE (gOpen h (37 + 6 * sbC h + 1) (nI (gn h (37 + 6 * a + 1) + gn h (37 + 6 * d + 1)))) (37 + 6 * a + 1) r c = gE h (37 + 6 * a + 1) r c := fun r c => by unfold gE; rw [hCh.2.2.1 _ (by omega)]
      have z0 : Int32.toNatClampNeg 0 = 0 := by decide
      have i0 : isN 0 5 := by unfold isN; decide
      generalize hM : gOpen h (37 + 6 * sbC h + 1) (nI (gn h (37 + 6 * a + 1) + gn h (37 + 6 * d + 1))) = M at *
      refine mv_go hX 80 ?_
      simp only [mv_wps, mv_exq, mv_exr, mv_exn, mv_xg, mv_xpi, mv_xpl, mv_xpr, mv_xc, mv_xc2, mv_xs, mv_9z, mv_cqs, mv_calls, mv_lgz, mv_stz, mv_kz, mv_cz, mv_fvs, mv_ats, mv_ics, mv_rz, mv_tz, mv_cns, mv_nfs, mv_fins, mv_det, mv_cc, mv_c0, Nat.reduceAdd, Nat.reduceEqDiff, Nat.reduceLT, Nat.reduceLeDiff, Nat.reduceSub, reduceIte, decide_false, decide_true, Bool.false_eq_true, List.map_cons, List.map_nil, List.sum_cons, List.sum_nil, true_and, and_true, true_or, or_true, false_or, or_false, false_and, and_false, true_implies, false_implies, implies_true, not_true_eq_false, not_false_eq_true, lg_cmp_ge, lg_cmp_le, lg_cmp_gt, lg_cmp_lt, lg_cmp_eq, qX6_sum, flX6s, cIX6s, cLX6s, csX6_sum, sX6_sum, sX6_latticeAt, sX6_freeLattice, sX3_ways, sX1_open, sX1_lay, sX6_keepIfSmall, ms_a, ms_aa, ms_aai, ms_ai, ms_aii, K1, hS, eF, eA, eB, hLa, hLd, l1, l3, l6, l6.1, a1, a3, a6, a6.1, e1, e3, e6, e6.1, ca, cd, eN, hM, oL, oGA, oR, oA, oN, z0, i0]
      refine ⟨fun _ => ⟨⟨ne1, by omega⟩, ?_⟩, fun z => absurd le4 z⟩
      rintro v h1 ⟨rfl, hr1⟩
      have hCh1 := hCh.tr (gRow_Ch oL hr1)
      have kL := hCh1.gok l6
      have kA := hCh1.la hLa
      have kGD := hCh1.gok e6
      have kR : h1.2.2 = h.2.2 := hCh1.1
      have k0 : h1.1 (37 + 6 * a + 1) 0 = nI (gn h (37 + 6 * a + 1)) := by rw [hCh1.2.1 _ 0 (by omega)]; exact a6.2.2.2.1
      have cn : (nI (gn h (37 + 6 * a + 1))).toNatClampNeg = gn h (37 + 6 * a + 1) := nI_clamp (by omega)
      have iN : isN (nI (gn h (37 + 6 * a + 1))) 5 := isN.nI (by omega) (by omega)
      have kD : gn h1 (37 + 6 * d + 1) = gn h (37 + 6 * d + 1) := by unfold gn; rw [hCh1.2.1 _ 0 (by omega)]
      have kN : gn h1 (37 + 6 * sbC h + 1) = gn h (37 + 6 * a + 1) + gn h (37 + 6 * d + 1) := by
        rw [← oN]
        unfold gn
        rw [hr1.1.1]
      have kED : ∀ r c, gE h1 (37 + 6 * d + 1) r c = gE h (37 + 6 * d + 1) r c := fun r c => by unfold gE; rw [hCh1.2.2.1 _ (by omega)]
      simp only [mv_wps, mv_exq, mv_exr, mv_exn, mv_xg, mv_xpi, mv_xpl, mv_xpr, mv_xc, mv_xc2, mv_xs, mv_9z, mv_cqs, mv_calls, mv_lgz, mv_stz, mv_kz, mv_cz, mv_fvs, mv_ats, mv_ics, mv_rz, mv_tz, mv_cns, mv_nfs, mv_fins, mv_det, mv_cc, mv_c0, Nat.reduceAdd, Nat.reduceEqDiff, Nat.reduceLT, Nat.reduceLeDiff, Nat.reduceSub, reduceIte, decide_false, decide_true, Bool.false_eq_true, List.map_cons, List.map_nil, List.sum_cons, List.sum_nil, true_and, and_true, true_or, or_true, false_or, or_false, false_and, and_false, true_implies, false_implies, implies_true, not_true_eq_false, not_false_eq_true, lg_cmp_ge, lg_cmp_le, lg_cmp_gt, lg_cmp_lt, lg_cmp_eq, qX6_sum, flX6s, cIX6s, cLX6s, csX6_sum, sX6_sum, sX6_latticeAt, sX6_freeLattice, sX3_ways, sX1_open, sX1_lay, sX6_keepIfSmall, ms_a, ms_aa, ms_aai, ms_ai, ms_aii, K1, l1, l3, l6.1, a1, a3, e1, e3, kL, kA, kGD, kR, k0, cn, iN, kD, kN]
      refine ⟨⟨ne2, by omega⟩, ?_⟩
      rintro v h2 ⟨rfl, hr2⟩
      have hCh2 := hCh1.tr (gRow_Ch kL hr2)
      have hAC := hCh2.la hA
      obtain ⟨c7, cC⟩ := hCh2.c (by omega)
      have hR : smR h (37 + 6 * a + 1) (37 + 6 * d + 1) (37 + 6 * sbC h + 1) h2 := by
        refine ⟨h1, ?_, ?_⟩
        · rw [hM]
          refine ⟨hr1.1, fun r c hr hc => ⟨fun w => ?_, fun w => ?_⟩⟩
          · rw [((hr1.2 r c hr hc).1 ⟨⟨by omega, by omega⟩, by omega, by omega⟩)]
            dsimp only
            rw [oEA, Nat.sub_zero, Nat.sub_zero]
          · exact (hr1.2 r c hr hc).2 (fun q => w ⟨by omega, by omega⟩)
        · refine ⟨hr2.1, fun r c hr hc => ⟨fun w => ?_, fun w => ?_⟩⟩
          · rw [((hr2.2 r c hr hc).1 w)]
            dsimp only
            rw [kED]
          · exact (hr2.2 r c hr hc).2 w
      simp only [mv_wps, mv_exq, mv_exr, mv_exn, mv_xg, mv_xpi, mv_xpl, mv_xpr, mv_xc, mv_xc2, mv_xs, mv_9z, mv_cqs, mv_calls, mv_lgz, mv_stz, mv_kz, mv_cz, mv_fvs, mv_ats, mv_ics, mv_rz, mv_tz, mv_cns, mv_nfs, mv_fins, mv_det, mv_cc, mv_c0, Nat.reduceAdd, Nat.reduceEqDiff, Nat.reduceLT, Nat.reduceLeDiff, Nat.reduceSub, reduceIte, decide_false, decide_true, Bool.false_eq_true, List.map_cons, List.map_nil, List.sum_cons, List.sum_nil, true_and, and_true, true_or, or_true, false_or, or_false, false_and, and_false, true_implies, false_implies, implies_true, not_true_eq_false, not_false_eq_true, lg_cmp_ge, lg_cmp_le, lg_cmp_gt, lg_cmp_lt, lg_cmp_eq, qX6_sum, flX6s, cIX6s, cLX6s, csX6_sum, sX6_sum, sX6_latticeAt, sX6_freeLattice, sX3_ways, sX1_open, sX1_lay, sX6_keepIfSmall, ms_a, ms_aa, ms_aai, ms_ai, ms_aii, K1, l1, ca, cd, hS.1.1, c7, cC, hC, hAC]
      rintro v h' (⟨w1, rfl, hh⟩ | ⟨w1, rfl, h3, w2, hh⟩)
      · simp only [mv_wps, mv_exq, mv_exr, mv_exn, mv_xg, mv_xpi, mv_xpl, mv_xpr, mv_xc, mv_xc2, mv_xs, mv_9z, mv_cqs, mv_calls, mv_lgz, mv_stz, mv_kz, mv_cz, mv_fvs, mv_ats, mv_ics, mv_rz, mv_tz, mv_cns, mv_nfs, mv_fins, mv_det, mv_cc, mv_c0, Nat.reduceAdd, Nat.reduceEqDiff, Nat.reduceLT, Nat.reduceLeDiff, Nat.reduceSub, reduceIte, decide_false, decide_true, Bool.false_eq_true, List.map_cons, List.map_nil, List.sum_cons, List.sum_nil, true_and, and_true, true_or, or_true, false_or, or_false, false_and, and_false, true_implies, false_implies, implies_true, not_true_eq_false, not_false_eq_true, lg_cmp_ge, lg_cmp_le, lg_cmp_gt, lg_cmp_lt, lg_cmp_eq, qX6_sum, flX6s, cIX6s, cLX6s, csX6_sum, sX6_sum, sX6_latticeAt, sX6_freeLattice, sX3_ways, sX1_open, sX1_lay, sX6_keepIfSmall, ms_a, ms_aa, ms_aai, ms_ai, ms_aii, ca, cd]
        exact Or.inr ⟨hok2, h2, hR, Or.inl ⟨w1, rfl, hh⟩⟩
      · simp only [mv_wps, mv_exq, mv_exr, mv_exn, mv_xg, mv_xpi, mv_xpl, mv_xpr, mv_xc, mv_xc2, mv_xs, mv_9z, mv_cqs, mv_calls, mv_lgz, mv_stz, mv_kz, mv_cz, mv_fvs, mv_ats, mv_ics, mv_rz, mv_tz, mv_cns, mv_nfs, mv_fins, mv_det, mv_cc, mv_c0, Nat.reduceAdd, Nat.reduceEqDiff, Nat.reduceLT, Nat.reduceLeDiff, Nat.reduceSub, reduceIte, decide_false, decide_true, Bool.false_eq_true, List.map_cons, List.map_nil, List.sum_cons, List.sum_nil, true_and, and_true, true_or, or_true, false_or, or_false, false_and, and_false, true_implies, false_implies, implies_true, not_true_eq_false, not_false_eq_true, lg_cmp_ge, lg_cmp_le, lg_cmp_gt, lg_cmp_lt, lg_cmp_eq, qX6_sum, flX6s, cIX6s, cLX6s, csX6_sum, sX6_sum, sX6_latticeAt, sX6_freeLattice, sX3_ways, sX1_open, sX1_lay, sX6_keepIfSmall, ms_a, ms_aa, ms_aai, ms_ai, ms_aii, ca, cd]
        exact Or.inr ⟨hok2, h2, hR, Or.inr ⟨w1, by rw [cC], h3, w2, by rw [cC]; exact hh⟩⟩
    · have hno : ¬ smOK h (nI a) (nI d) := fun z => hle (by have := z.2; rw [ca, cd] at this; exact this)
      have le4 : ¬ nI (gn h (37 + 6 * a + 1) + gn h (37 + 6 * d + 1)) ≤ 4 := by rw [i4, nI_leI (by omega) (by omega)]; exact hle
      refine mv_go hX 30 ?_
      simp only [mv_wps, mv_exq, mv_exr, mv_exn, mv_xg, mv_xpi, mv_xpl, mv_xpr, mv_xc, mv_xc2, mv_xs, mv_9z, mv_cqs, mv_calls, mv_lgz, mv_stz, mv_kz, mv_cz, mv_fvs, mv_ats, mv_ics, mv_rz, mv_tz, mv_cns, mv_nfs, mv_fins, mv_det, mv_cc, mv_c0, Nat.reduceAdd, Nat.reduceEqDiff, Nat.reduceLT, Nat.reduceLeDiff, Nat.reduceSub, reduceIte, decide_false, decide_true, Bool.false_eq_true, List.map_cons, List.map_nil, List.sum_cons, List.sum_nil, true_and, and_true, true_or, or_true, false_or, or_false, false_and, and_false, true_implies, false_implies, implies_true, not_true_eq_false, not_false_eq_true, lg_cmp_ge, lg_cmp_le, lg_cmp_gt, lg_cmp_lt, lg_cmp_eq, qX6_sum, flX6s, cIX6s, cLX6s, csX6_sum, sX6_sum, sX6_latticeAt, sX6_freeLattice, sX3_ways, sX1_open, sX1_lay, sX6_keepIfSmall, ms_a, ms_aa, ms_aai, ms_ai, ms_aii, K1, hS, eF, eA, eB, hLa, hLd, l1, l3, l6, l6.1, a1, a3, a6, a6.1, e1, e3, e6, e6.1, ca, cd, eN]
      exact ⟨fun z => absurd z le4, fun _ => Or.inl hno⟩
  · have hno : ¬ smOK h x1 x2 := fun z => hok z.1
    by_cases hin : inR (sbC h) x1
    · have eA : sbAt h x1 = .ref (37 + 6 * x1.toNatClampNeg) := if_pos hin
      by_cases hin2 : inR (sbC h) x2
      · have eB : sbAt h x2 = .ref (37 + 6 * x2.toNatClampNeg) := if_pos hin2
        have hf : ¬ sbC h < 20 := fun z => hok ⟨hin, hin2, z⟩
        have eF : sbFree h = .null := if_neg hf
        refine mv_go hX 60 ?_
        simp only [mv_wps, mv_exq, mv_exr, mv_exn, mv_xg, mv_xpi, mv_xpl, mv_xpr, mv_xc, mv_xc2, mv_xs, mv_9z, mv_cqs, mv_calls, mv_lgz, mv_stz, mv_kz, mv_cz, mv_fvs, mv_ats, mv_ics, mv_rz, mv_tz, mv_cns, mv_nfs, mv_fins, mv_det, mv_cc, mv_c0, Nat.reduceAdd, Nat.reduceEqDiff, Nat.reduceLT, Nat.reduceLeDiff, Nat.reduceSub, reduceIte, decide_false, decide_true, Bool.false_eq_true, List.map_cons, List.map_nil, List.sum_cons, List.sum_nil, true_and, and_true, true_or, or_true, false_or, or_false, false_and, and_false, true_implies, false_implies, implies_true, not_true_eq_false, not_false_eq_true, lg_cmp_ge, lg_cmp_le, lg_cmp_gt, lg_cmp_lt, lg_cmp_eq, qX6_sum, flX6s, cIX6s, cLX6s, csX6_sum, sX6_sum, sX6_latticeAt, sX6_freeLattice, sX3_ways, sX1_open, sX1_lay, sX6_keepIfSmall, ms_a, ms_aa, ms_aai, ms_ai, ms_aii, K1, hS, eF, eA, eB]
        exact Or.inl hno
      · have eB : sbAt h x2 = .null := if_neg hin2
        by_cases hf : sbC h < 20
        · have eF : sbFree h = .ref (37 + 6 * sbC h) := if_pos hf
          refine mv_go hX 60 ?_
          simp only [mv_wps, mv_exq, mv_exr, mv_exn, mv_xg, mv_xpi, mv_xpl, mv_xpr, mv_xc, mv_xc2, mv_xs, mv_9z, mv_cqs, mv_calls, mv_lgz, mv_stz, mv_kz, mv_cz, mv_fvs, mv_ats, mv_ics, mv_rz, mv_tz, mv_cns, mv_nfs, mv_fins, mv_det, mv_cc, mv_c0, Nat.reduceAdd, Nat.reduceEqDiff, Nat.reduceLT, Nat.reduceLeDiff, Nat.reduceSub, reduceIte, decide_false, decide_true, Bool.false_eq_true, List.map_cons, List.map_nil, List.sum_cons, List.sum_nil, true_and, and_true, true_or, or_true, false_or, or_false, false_and, and_false, true_implies, false_implies, implies_true, not_true_eq_false, not_false_eq_true, lg_cmp_ge, lg_cmp_le, lg_cmp_gt, lg_cmp_lt, lg_cmp_eq, qX6_sum, flX6s, cIX6s, cLX6s, csX6_sum, sX6_sum, sX6_latticeAt, sX6_freeLattice, sX3_ways, sX1_open, sX1_lay, sX6_keepIfSmall, ms_a, ms_aa, ms_aai, ms_ai, ms_aii, K1, hS, eF, eA, eB]
          exact Or.inl hno
        · have eF : sbFree h = .null := if_neg hf
          refine mv_go hX 60 ?_
          simp only [mv_wps, mv_exq, mv_exr, mv_exn, mv_xg, mv_xpi, mv_xpl, mv_xpr, mv_xc, mv_xc2, mv_xs, mv_9z, mv_cqs, mv_calls, mv_lgz, mv_stz, mv_kz, mv_cz, mv_fvs, mv_ats, mv_ics, mv_rz, mv_tz, mv_cns, mv_nfs, mv_fins, mv_det, mv_cc, mv_c0, Nat.reduceAdd, Nat.reduceEqDiff, Nat.reduceLT, Nat.reduceLeDiff, Nat.reduceSub, reduceIte, decide_false, decide_true, Bool.false_eq_true, List.map_cons, List.map_nil, List.sum_cons, List.sum_nil, true_and, and_true, true_or, or_true, false_or, or_false, false_and, and_false, true_implies, false_implies, implies_true, not_true_eq_false, not_false_eq_true, lg_cmp_ge, lg_cmp_le, lg_cmp_gt, lg_cmp_lt, lg_cmp_eq, qX6_sum, flX6s, cIX6s, cLX6s, csX6_sum, sX6_sum, sX6_latticeAt, sX6_freeLattice, sX3_ways, sX1_open, sX1_lay, sX6_keepIfSmall, ms_a, ms_aa, ms_aai, ms_ai, ms_aii, K1, hS, eF, eA, eB]
          exact Or.inl hno
    · have eA : sbAt h x1 = .null := if_neg hin
      have eB : sbAt h x2 = .null ∨ ∃ r, sbAt h x2 = .ref r := by
        unfold sbAt
        split
        · exact Or.inr ⟨_, rfl⟩
        · exact Or.inl rfl
      by_cases hf : sbC h < 20
      · have eF : sbFree h = .ref (37 + 6 * sbC h) := if_pos hf
        rcases eB with eB | ⟨r, eB⟩
        · refine mv_go hX 60 ?_
          simp only [mv_wps, mv_exq, mv_exr, mv_exn, mv_xg, mv_xpi, mv_xpl, mv_xpr, mv_xc, mv_xc2, mv_xs, mv_9z, mv_cqs, mv_calls, mv_lgz, mv_stz, mv_kz, mv_cz, mv_fvs, mv_ats, mv_ics, mv_rz, mv_tz, mv_cns, mv_nfs, mv_fins, mv_det, mv_cc, mv_c0, Nat.reduceAdd, Nat.reduceEqDiff, Nat.reduceLT, Nat.reduceLeDiff, Nat.reduceSub, reduceIte, decide_false, decide_true, Bool.false_eq_true, List.map_cons, List.map_nil, List.sum_cons, List.sum_nil, true_and, and_true, true_or, or_true, false_or, or_false, false_and, and_false, true_implies, false_implies, implies_true, not_true_eq_false, not_false_eq_true, lg_cmp_ge, lg_cmp_le, lg_cmp_gt, lg_cmp_lt, lg_cmp_eq, qX6_sum, flX6s, cIX6s, cLX6s, csX6_sum, sX6_sum, sX6_latticeAt, sX6_freeLattice, sX3_ways, sX1_open, sX1_lay, sX6_keepIfSmall, ms_a, ms_aa, ms_aai, ms_ai, ms_aii, K1, hS, eF, eA, eB]
          exact Or.inl hno
        · refine mv_go hX 60 ?_
          simp only [mv_wps, mv_exq, mv_exr, mv_exn, mv_xg, mv_xpi, mv_xpl, mv_xpr, mv_xc, mv_xc2, mv_xs, mv_9z, mv_cqs, mv_calls, mv_lgz, mv_stz, mv_kz, mv_cz, mv_fvs, mv_ats, mv_ics, mv_rz, mv_tz, mv_cns, mv_nfs, mv_fins, mv_det, mv_cc, mv_c0, Nat.reduceAdd, Nat.reduceEqDiff, Nat.reduceLT, Nat.reduceLeDiff, Nat.reduceSub, reduceIte, decide_false, decide_true, Bool.false_eq_true, List.map_cons, List.map_nil, List.sum_cons, List.sum_nil, true_and, and_true, true_or, or_true, false_or, or_false, false_and, and_false, true_implies, false_implies, implies_true, not_true_eq_false, not_false_eq_true, lg_cmp_ge, lg_cmp_le, lg_cmp_gt, lg_cmp_lt, lg_cmp_eq, qX6_sum, flX6s, cIX6s, cLX6s, csX6_sum, sX6_sum, sX6_latticeAt, sX6_freeLattice, sX3_ways, sX1_open, sX1_lay, sX6_keepIfSmall, ms_a, ms_aa, ms_aai, ms_ai, ms_aii, K1, hS, eF, eA, eB]
          exact Or.inl hno
      · have eF : sbFree h = .null := if_neg hf
        rcases eB with eB | ⟨r, eB⟩
        · refine mv_go hX 60 ?_
          simp only [mv_wps, mv_exq, mv_exr, mv_exn, mv_xg, mv_xpi, mv_xpl, mv_xpr, mv_xc, mv_xc2, mv_xs, mv_9z, mv_cqs, mv_calls, mv_lgz, mv_stz, mv_kz, mv_cz, mv_fvs, mv_ats, mv_ics, mv_rz, mv_tz, mv_cns, mv_nfs, mv_fins, mv_det, mv_cc, mv_c0, Nat.reduceAdd, Nat.reduceEqDiff, Nat.reduceLT, Nat.reduceLeDiff, Nat.reduceSub, reduceIte, decide_false, decide_true, Bool.false_eq_true, List.map_cons, List.map_nil, List.sum_cons, List.sum_nil, true_and, and_true, true_or, or_true, false_or, or_false, false_and, and_false, true_implies, false_implies, implies_true, not_true_eq_false, not_false_eq_true, lg_cmp_ge, lg_cmp_le, lg_cmp_gt, lg_cmp_lt, lg_cmp_eq, qX6_sum, flX6s, cIX6s, cLX6s, csX6_sum, sX6_sum, sX6_latticeAt, sX6_freeLattice, sX3_ways, sX1_open, sX1_lay, sX6_keepIfSmall, ms_a, ms_aa, ms_aai, ms_ai, ms_aii, K1, hS, eF, eA, eB]
          exact Or.inl hno
        · refine mv_go hX 60 ?_
          simp only [mv_wps, mv_exq, mv_exr, mv_exn, mv_xg, mv_xpi, mv_xpl, mv_xpr, mv_xc, mv_xc2, mv_xs, mv_9z, mv_cqs, mv_calls, mv_lgz, mv_stz, mv_kz, mv_cz, mv_fvs, mv_ats, mv_ics, mv_rz, mv_tz, mv_cns, mv_nfs, mv_fins, mv_det, mv_cc, mv_c0, Nat.reduceAdd, Nat.reduceEqDiff, Nat.reduceLT, Nat.reduceLeDiff, Nat.reduceSub, reduceIte, decide_false, decide_true, Bool.false_eq_true, List.map_cons, List.map_nil, List.sum_cons, List.sum_nil, true_and, and_true, true_or, or_true, false_or, or_false, false_and, and_false, true_implies, false_implies, implies_true, not_true_eq_false, not_false_eq_true, lg_cmp_ge, lg_cmp_le, lg_cmp_gt, lg_cmp_lt, lg_cmp_eq, qX6_sum, flX6s, cIX6s, cLX6s, csX6_sum, sX6_sum, sX6_latticeAt, sX6_freeLattice, sX3_ways, sX1_open, sX1_lay, sX6_keepIfSmall, ms_a, ms_aa, ms_aai, ms_ai, ms_aii, K1, hS, eF, eA, eB]
          exact Or.inl hno
