/-! The bench's calls that only look or lay. -/
def sX6_sheet (kd : List (Nat × Nat)) : mv_S := ms_ai (fun b _ h => b = 0 ∧ sbOk kd h) (fun _ n h v h' => v = some (.int (if 1 ≤ n ∧ n ≤ 4 then 1 else 0)) ∧ h' = if 1 ≤ n ∧ n ≤ 4 then gOpen h 1 n else h)
noncomputable def csX6_sheet (kd : List (Nat × Nat)) : mv_CS := (mv_cc 64 1 1 (sX1_open kd) mv_c0)
theorem oX6_sheet {l : Launch} {b : Nat} {ad : Nat → Nat} {D : va_G} {cA : Nat → ClassId} {kd : List (Nat × Nat)} (had : ∀ i, i < kd.length → ad i = b + i) : mv_Own l (mv_room 2) b ad D cA kd RX6 flX6 cIX6 cLX6 (csX6_sheet kd) := (mv_oV lRX6_64 zX1_open rfl (by decide) (ctX1_open had) ⟨by decide, by decide⟩ (mv_o0 flX6_ok cIX6_ok cLX6_ok))
set_option maxRecDepth 100000 in
set_option maxHeartbeats 4000000 in
theorem ctX6_sheet {l : Launch} {b : Nat} {ad : Nat → Nat} {D : va_G} {cA : Nat → ClassId} {kd : List (Nat × Nat)} (had : ∀ i, i < kd.length → ad i = b + i) : mv_Ct l b ad D cA kd yX6_sheet cX6_sheet 2 (some .boolean) 2 (sX6_sheet kd) := by
  refine mv_introF (rk := 2) tX6_sheet (mv_pf plRX6) kX6_sheet had ⟨(fun e => by cases e), (fun e => by cases e), (fun _ => rfl), (fun e => by cases e), (fun e => by cases e)⟩ (oX6_sheet had) ?_
  intro h as hp
  obtain ⟨x0, x1, rfl, hq⟩ := ms_ai_inv hp
  refine ⟨Nat.le_of_ble_eq_true rfl, fun X hX => ?_⟩
  show X 0 [some (.ref x0), some (.int x1)] [] h
  obtain ⟨rfl, hS⟩ := hq
  obtain ⟨⟨⟨K1, K2⟩, ⟨⟨p0, p1, p2, p3, p4, p5, p6⟩, pls, psh⟩, hC⟩, ⟨g1, g3, g5⟩, ⟨hw, hu, hr⟩, ⟨b29, b33⟩, hla⟩ := id hS
  refine mv_go hX 40 ?_
  simp only [mv_wps, mv_exq, mv_exr, mv_exn, mv_xg, mv_xpi, mv_xpl, mv_xpr, mv_xc, mv_xc2, mv_xs, mv_9z, mv_cqs, mv_calls, mv_lgz, mv_stz, mv_kz, mv_cz, mv_fvs, mv_ats, mv_ics, mv_rz, mv_tz, mv_cns, mv_nfs, mv_fins, mv_det, mv_cc, mv_c0, Nat.reduceAdd, Nat.reduceEqDiff, Nat.reduceLT, Nat.reduceLeDiff, Nat.reduceSub, reduceIte, decide_false, decide_true, Bool.false_eq_true, List.map_cons, List.map_nil, List.sum_cons, List.sum_nil, true_and, and_true, true_or, or_true, false_or, or_false, false_and, and_false, true_implies, false_implies, implies_true, not_true_eq_false, not_false_eq_true, lg_cmp_ge, lg_cmp_le, lg_cmp_gt, lg_cmp_lt, lg_cmp_eq, qX6_sheet, flX6s, cIX6s, cLX6s, csX6_sheet, sX6_sheet, sX1_open, ms_ai, K1, p0, g1, g1.1]
  refine ⟨fun h1 => ?_, fun h1 => ⟨fun h2 => ?_, fun h2 => ?_⟩⟩
  · rw [if_neg (fun z => absurd z.1 (Int32.not_le.mpr h1)), if_neg (fun z => absurd z.1 (Int32.not_le.mpr h1))]
    exact ⟨rfl, rfl⟩
  · rw [if_pos ⟨Int32.not_lt.mp h1, h2⟩, if_pos ⟨Int32.not_lt.mp h1, h2⟩]
    exact ⟨rfl, rfl⟩
  · rw [if_neg (fun z => h2 z.2), if_neg (fun z => h2 z.2)]
    exact ⟨rfl, rfl⟩
def sX6_cell (kd : List (Nat × Nat)) : mv_S := ms_aiii (fun b _ _ _ h => b = 0 ∧ sbOk kd h) (fun _ i k x h v h' => v = some (.int (if gHas (gn h 1) i k ∧ -999 ≤ x ∧ x ≤ 999 then 1 else 0)) ∧ h' = if gHas (gn h 1) i k ∧ -999 ≤ x ∧ x ≤ 999 then gPut h 1 i k x.toInt64 else h)
noncomputable def csX6_cell (kd : List (Nat × Nat)) : mv_CS := (mv_cc 72 1 2 (sX1_has kd) (mv_cc 68 1 3 (sX1_put kd) mv_c0))
theorem oX6_cell {l : Launch} {b : Nat} {ad : Nat → Nat} {D : va_G} {cA : Nat → ClassId} {kd : List (Nat × Nat)} (had : ∀ i, i < kd.length → ad i = b + i) : mv_Own l (mv_room 2) b ad D cA kd RX6 flX6 cIX6 cLX6 (csX6_cell kd) := (mv_oV lRX6_72 zX1_has rfl (by decide) (ctX1_has had) ⟨by decide, by decide⟩ (mv_oV lRX6_68 zX1_put rfl (by decide) (ctX1_put had) ⟨by decide, by decide⟩ (mv_o0 flX6_ok cIX6_ok cLX6_ok)))
set_option maxRecDepth 100000 in
set_option maxHeartbeats 4000000 in
theorem ctX6_cell {l : Launch} {b : Nat} {ad : Nat → Nat} {D : va_G} {cA : Nat → ClassId} {kd : List (Nat × Nat)} (had : ∀ i, i < kd.length → ad i = b + i) : mv_Ct l b ad D cA kd yX6_cell cX6_cell 4 (some .boolean) 2 (sX6_cell kd) := by
  refine mv_introF (rk := 2) tX6_cell (mv_pf plRX6) kX6_cell had ⟨(fun e => by cases e), (fun e => by cases e), (fun _ => rfl), (fun e => by cases e), (fun e => by cases e)⟩ (oX6_cell had) ?_
  intro h as hp
  obtain ⟨x0, x1, x2, x3, rfl, hq⟩ := ms_aiii_inv hp
  refine ⟨Nat.le_of_ble_eq_true rfl, fun X hX => ?_⟩
  show X 0 [some (.ref x0), some (.int x1), some (.int x2), some (.int x3)] [] h
  obtain ⟨rfl, hS⟩ := hq
  obtain ⟨⟨⟨K1, K2⟩, ⟨⟨p0, p1, p2, p3, p4, p5, p6⟩, pls, psh⟩, hC⟩, ⟨g1, g3, g5⟩, ⟨hw, hu, hr⟩, ⟨b29, b33⟩, hla⟩ := id hS
  refine mv_go hX 60 ?_
  simp only [mv_wps, mv_exq, mv_exr, mv_exn, mv_xg, mv_xpi, mv_xpl, mv_xpr, mv_xc, mv_xc2, mv_xs, mv_9z, mv_cqs, mv_calls, mv_lgz, mv_stz, mv_kz, mv_cz, mv_fvs, mv_ats, mv_ics, mv_rz, mv_tz, mv_cns, mv_nfs, mv_fins, mv_det, mv_cc, mv_c0, Nat.reduceAdd, Nat.reduceEqDiff, Nat.reduceLT, Nat.reduceLeDiff, Nat.reduceSub, reduceIte, decide_false, decide_true, Bool.false_eq_true, List.map_cons, List.map_nil, List.sum_cons, List.sum_nil, true_and, and_true, true_or, or_true, false_or, or_false, false_and, and_false, true_implies, false_implies, implies_true, not_true_eq_false, not_false_eq_true, lg_cmp_ge, lg_cmp_le, lg_cmp_gt, lg_cmp_lt, lg_cmp_eq, qX6_cell, flX6s, cIX6s, cLX6s, csX6_cell, sX6_cell, sX1_has, sX1_put, ms_aii, ms_aiii, ms_aiil, K1, p0, g1, g1.1, mv_b01]
  refine ⟨fun h1 => ?_, fun h1 => ⟨fun h2 => ?_, fun h2 => ⟨fun h3 => ?_, fun h3 => ?_⟩⟩⟩
  · rw [if_neg (fun z => h1 z.1), if_neg (fun z => h1 z.1)]
    exact ⟨rfl, rfl⟩
  · rw [if_neg (fun z => absurd z.2.1 (Int32.not_le.mpr h2)), if_neg (fun z => absurd z.2.1 (Int32.not_le.mpr h2))]
    exact ⟨rfl, rfl⟩
  · have q : gHas (gn h 1) x1 x2 ∧ -999 ≤ x3 ∧ x3 ≤ 999 := ⟨Classical.not_not.mp h1, Int32.not_lt.mp h2, h3⟩
    rw [if_pos q, if_pos q]
    exact ⟨rfl, rfl⟩
  · rw [if_neg (fun z => h3 z.2.2), if_neg (fun z => h3 z.2.2)]
    exact ⟨rfl, rfl⟩
def sX6_cellOf (kd : List (Nat × Nat)) : mv_S := ms_aii (fun b _ _ h => b = 0 ∧ sbOk kd h) (fun _ i k h v h' => v = some (.int (if gHas (gn h 1) i k then (gAt h 1 i k).toInt32 else -100000)) ∧ h' = h)
noncomputable def csX6_cellOf (kd : List (Nat × Nat)) : mv_CS := (mv_cc 72 1 2 (sX1_has kd) (mv_cc 76 1 2 (sX1_at kd) mv_c0))
theorem oX6_cellOf {l : Launch} {b : Nat} {ad : Nat → Nat} {D : va_G} {cA : Nat → ClassId} {kd : List (Nat × Nat)} (had : ∀ i, i < kd.length → ad i = b + i) : mv_Own l (mv_room 2) b ad D cA kd RX6 flX6 cIX6 cLX6 (csX6_cellOf kd) := (mv_oV lRX6_72 zX1_has rfl (by decide) (ctX1_has had) ⟨by decide, by decide⟩ (mv_oV lRX6_76 zX1_at rfl (by decide) (ctX1_at had) ⟨by decide, by decide⟩ (mv_o0 flX6_ok cIX6_ok cLX6_ok)))
set_option maxRecDepth 100000 in
set_option maxHeartbeats 4000000 in
theorem ctX6_cellOf {l : Launch} {b : Nat} {ad : Nat → Nat} {D : va_G} {cA : Nat → ClassId} {kd : List (Nat × Nat)} (had : ∀ i, i < kd.length → ad i = b + i) : mv_Ct l b ad D cA kd yX6_cellOf cX6_cellOf 3 (some .int) 2 (sX6_cellOf kd) := by
  refine mv_introF (rk := 1) tX6_cellOf (mv_pf plRX6) kX6_cellOf had ⟨(fun e => by cases e), (fun _ => rfl), (fun e => by cases e), (fun e => by cases e), (fun e => by cases e)⟩ (oX6_cellOf had) ?_
  intro h as hp
  obtain ⟨x0, x1, x2, rfl, hq⟩ := ms_aii_inv hp
  refine ⟨Nat.le_of_ble_eq_true rfl, fun X hX => ?_⟩
  show X 0 [some (.ref x0), some (.int x1), some (.int x2)] [] h
  obtain ⟨rfl, hS⟩ := hq
  obtain ⟨⟨⟨K1, K2⟩, ⟨⟨p0, p1, p2, p3, p4, p5, p6⟩, pls, psh⟩, hC⟩, ⟨g1, g3, g5⟩, ⟨hw, hu, hr⟩, ⟨b29, b33⟩, hla⟩ := id hS
  refine mv_go hX 60 ?_
  simp only [mv_wps, mv_exq, mv_exr, mv_exn, mv_xg, mv_xpi, mv_xpl, mv_xpr, mv_xc, mv_xc2, mv_xs, mv_9z, mv_cqs, mv_calls, mv_lgz, mv_stz, mv_kz, mv_cz, mv_fvs, mv_ats, mv_ics, mv_rz, mv_tz, mv_cns, mv_nfs, mv_fins, mv_det, mv_cc, mv_c0, Nat.reduceAdd, Nat.reduceEqDiff, Nat.reduceLT, Nat.reduceLeDiff, Nat.reduceSub, reduceIte, decide_false, decide_true, Bool.false_eq_true, List.map_cons, List.map_nil, List.sum_cons, List.sum_nil, true_and, and_true, true_or, or_true, false_or, or_false, false_and, and_false, true_implies, false_implies, implies_true, not_true_eq_false, not_false_eq_true, lg_cmp_ge, lg_cmp_le, lg_cmp_gt, lg_cmp_lt, lg_cmp_eq, qX6_cellOf, flX6s, cIX6s, cLX6s, csX6_cellOf, sX6_cellOf, sX1_has, sX1_at, ms_aii, K1, p0, g1, g1.1, mv_b01]
  exact ⟨fun h1 => by rw [if_neg h1], fun h1 => by rw [if_pos (Classical.not_not.mp h1)]⟩
def sX6_way (kd : List (Nat × Nat)) : mv_S := ms_aii (fun b _ _ h => b = 0 ∧ sbOk kd h) (fun _ i k h v h' => v = some (.int (if gHas (gn h 3) i k then (gAt h 3 i k).toInt32 else -100000)) ∧ h' = h)
noncomputable def csX6_way (kd : List (Nat × Nat)) : mv_CS := (mv_cc 72 1 2 (sX1_has kd) (mv_cc 76 1 2 (sX1_at kd) mv_c0))
theorem oX6_way {l : Launch} {b : Nat} {ad : Nat → Nat} {D : va_G} {cA : Nat → ClassId} {kd : List (Nat × Nat)} (had : ∀ i, i < kd.length → ad i = b + i) : mv_Own l (mv_room 2) b ad D cA kd RX6 flX6 cIX6 cLX6 (csX6_way kd) := (mv_oV lRX6_72 zX1_has rfl (by decide) (ctX1_has had) ⟨by decide, by decide⟩ (mv_oV lRX6_76 zX1_at rfl (by decide) (ctX1_at had) ⟨by decide, by decide⟩ (mv_o0 flX6_ok cIX6_ok cLX6_ok)))
set_option maxRecDepth 100000 in
set_option maxHeartbeats 4000000 in
theorem ctX6_way {l : Launch} {b : Nat} {ad : Nat → Nat} {D : va_G} {cA : Nat → ClassId} {kd : List (Nat × Nat)} (had : ∀ i, i < kd.length → ad i = b + i) : mv_Ct l b ad D cA kd yX6_way cX6_way 3 (some .int) 2 (sX6_way kd) := by
  refine mv_introF (rk := 1) tX6_way (mv_pf plRX6) kX6_way had ⟨(fun e => by cases e), (fun _ => rfl), (fun e => by cases e), (fun e => by cases e), (fun e => by cases e)⟩ (oX6_way had) ?_
  intro h as hp
  obtain ⟨x0, x1, x2, rfl, hq⟩ := ms_aii_inv hp
  refine ⟨Nat.le_of_ble_eq_true rfl, fun X hX => ?_⟩
  show X 0 [some (.ref x0), some (.int x1), some (.int x2)] [] h
  obtain ⟨rfl, hS⟩ := hq
  obtain ⟨⟨⟨K1, K2⟩, ⟨⟨p0, p1, p2, p3, p4, p5, p6⟩, pls, psh⟩, hC⟩, ⟨g1, g3, g5⟩, ⟨hw, hu, hr⟩, ⟨b29, b33⟩, hla⟩ := id hS
  refine mv_go hX 60 ?_
  simp only [mv_wps, mv_exq, mv_exr, mv_exn, mv_xg, mv_xpi, mv_xpl, mv_xpr, mv_xc, mv_xc2, mv_xs, mv_9z, mv_cqs, mv_calls, mv_lgz, mv_stz, mv_kz, mv_cz, mv_fvs, mv_ats, mv_ics, mv_rz, mv_tz, mv_cns, mv_nfs, mv_fins, mv_det, mv_cc, mv_c0, Nat.reduceAdd, Nat.reduceEqDiff, Nat.reduceLT, Nat.reduceLeDiff, Nat.reduceSub, reduceIte, decide_false, decide_true, Bool.false_eq_true, List.map_cons, List.map_nil, List.sum_cons, List.sum_nil, true_and, and_true, true_or, or_true, false_or, or_false, false_and, and_false, true_implies, false_implies, implies_true, not_true_eq_false, not_false_eq_true, lg_cmp_ge, lg_cmp_le, lg_cmp_gt, lg_cmp_lt, lg_cmp_eq, qX6_way, flX6s, cIX6s, cLX6s, csX6_way, sX6_way, sX1_has, sX1_at, ms_aii, K1, p1, g3, g3.1, mv_b01]
  exact ⟨fun h1 => by rw [if_neg h1], fun h1 => by rw [if_pos (Classical.not_not.mp h1)]⟩
def sX6_wayWorth (kd : List (Nat × Nat)) : mv_S := ms_a (fun b h => b = 0 ∧ sbOk kd h) (fun _ h v h' => v = some (.long (if h.1 3 0 = 0 then 0 else gDet h 3 (h.1 3 0))) ∧ h' = h)
noncomputable def csX6_wayWorth (kd : List (Nat × Nat)) : mv_CS := (mv_cc 156 1 0 (sX1_lines kd) (mv_cc 159 1 0 (sX1_determinant kd) mv_c0))
theorem oX6_wayWorth {l : Launch} {b : Nat} {ad : Nat → Nat} {D : va_G} {cA : Nat → ClassId} {kd : List (Nat × Nat)} (had : ∀ i, i < kd.length → ad i = b + i) : mv_Own l (mv_room 10) b ad D cA kd RX6 flX6 cIX6 cLX6 (csX6_wayWorth kd) := (mv_oV lRX6_156 zX1_lines rfl (by decide) (ctX1_lines had) ⟨by decide, by decide⟩ (mv_oV lRX6_159 zX1_determinant rfl (by decide) (ctX1_determinant had) ⟨by decide, by decide⟩ (mv_o0 flX6_ok cIX6_ok cLX6_ok)))
set_option maxRecDepth 100000 in
set_option maxHeartbeats 4000000 in
theorem ctX6_wayWorth {l : Launch} {b : Nat} {ad : Nat → Nat} {D : va_G} {cA : Nat → ClassId} {kd : List (Nat × Nat)} (had : ∀ i, i < kd.length → ad i = b + i) : mv_Ct l b ad D cA kd yX6_wayWorth cX6_wayWorth 1 (some .long) 10 (sX6_wayWorth kd) := by
  refine mv_introF (rk := 3) tX6_wayWorth (mv_pf plRX6) kX6_wayWorth had ⟨(fun e => by cases e), (fun e => by cases e), (fun e => by cases e), (fun _ => rfl), (fun e => by cases e)⟩ (oX6_wayWorth had) ?_
  intro h as hp
  obtain ⟨x0, rfl, hq⟩ := ms_a_inv hp
  refine ⟨Nat.le_of_ble_eq_true rfl, fun X hX => ?_⟩
  show X 0 [some (.ref x0)] [] h
  obtain ⟨rfl, hS⟩ := hq
  obtain ⟨⟨⟨K1, K2⟩, ⟨⟨p0, p1, p2, p3, p4, p5, p6⟩, pls, psh⟩, hC⟩, ⟨g1, g3, g5⟩, ⟨hw, hu, hr⟩, ⟨b29, b33⟩, hla⟩ := id hS
  refine mv_go hX 60 ?_
  simp only [mv_wps, mv_exq, mv_exr, mv_exn, mv_xg, mv_xpi, mv_xpl, mv_xpr, mv_xc, mv_xc2, mv_xs, mv_9z, mv_cqs, mv_calls, mv_lgz, mv_stz, mv_kz, mv_cz, mv_fvs, mv_ats, mv_ics, mv_rz, mv_tz, mv_cns, mv_nfs, mv_fins, mv_det, mv_cc, mv_c0, Nat.reduceAdd, Nat.reduceEqDiff, Nat.reduceLT, Nat.reduceLeDiff, Nat.reduceSub, reduceIte, decide_false, decide_true, Bool.false_eq_true, List.map_cons, List.map_nil, List.sum_cons, List.sum_nil, true_and, and_true, true_or, or_true, false_or, or_false, false_and, and_false, true_implies, false_implies, implies_true, not_true_eq_false, not_false_eq_true, lg_cmp_ge, lg_cmp_le, lg_cmp_gt, lg_cmp_lt, lg_cmp_eq, qX6_wayWorth, flX6s, cIX6s, cLX6s, csX6_wayWorth, sX6_wayWorth, sX1_lines, sX1_determinant, ms_a, K1, p1, g3, g3.1, mv_b01]
  exact ⟨fun h1 => by rw [if_neg h1], fun h1 => by rw [if_pos (Classical.not_not.mp h1)]⟩
def sX6_index (kd : List (Nat × Nat)) : mv_S := ms_a (fun b h => b = 0 ∧ sbOk kd h) (fun _ h v h' => v = some (.long (jAbs (gDet h 1 (h.1 1 0)))) ∧ h' = h)
noncomputable def csX6_index (kd : List (Nat × Nat)) : mv_CS := (mv_cc 159 1 0 (sX1_determinant kd) (mv_cc 177 99 1 (sJ9_abs_067f4 kd) mv_c0))
theorem oX6_index {l : Launch} {b : Nat} {ad : Nat → Nat} {D : va_G} {cA : Nat → ClassId} {kd : List (Nat × Nat)} (had : ∀ i, i < kd.length → ad i = b + i) : mv_Own l (mv_room 10) b ad D cA kd RX6 flX6 cIX6 cLX6 (csX6_index kd) := (mv_oV lRX6_159 zX1_determinant rfl (by decide) (ctX1_determinant had) ⟨by decide, by decide⟩ (mv_oS lRX6_177 zJ9_abs_067f4 (ctJ9_abs_067f4 had) ⟨by decide, by decide⟩ (mv_o0 flX6_ok cIX6_ok cLX6_ok)))
set_option maxRecDepth 100000 in
set_option maxHeartbeats 4000000 in
theorem ctX6_index {l : Launch} {b : Nat} {ad : Nat → Nat} {D : va_G} {cA : Nat → ClassId} {kd : List (Nat × Nat)} (had : ∀ i, i < kd.length → ad i = b + i) : mv_Ct l b ad D cA kd yX6_index cX6_index 1 (some .long) 10 (sX6_index kd) := by
  refine mv_introF (rk := 3) tX6_index (mv_pf plRX6) kX6_index had ⟨(fun e => by cases e), (fun e => by cases e), (fun e => by cases e), (fun _ => rfl), (fun e => by cases e)⟩ (oX6_index had) ?_
  intro h as hp
  obtain ⟨x0, rfl, hq⟩ := ms_a_inv hp
  refine ⟨Nat.le_of_ble_eq_true rfl, fun X hX => ?_⟩
  show X 0 [some (.ref x0)] [] h
  obtain ⟨rfl, hS⟩ := hq
  obtain ⟨⟨⟨K1, K2⟩, ⟨⟨p0, p1, p2, p3, p4, p5, p6⟩, pls, psh⟩, hC⟩, ⟨g1, g3, g5⟩, ⟨hw, hu, hr⟩, ⟨b29, b33⟩, hla⟩ := id hS
  refine mv_go hX 60 ?_
  simp only [mv_wps, mv_exq, mv_exr, mv_exn, mv_xg, mv_xpi, mv_xpl, mv_xpr, mv_xc, mv_xc2, mv_xs, mv_9z, mv_cqs, mv_calls, mv_lgz, mv_stz, mv_kz, mv_cz, mv_fvs, mv_ats, mv_ics, mv_rz, mv_tz, mv_cns, mv_nfs, mv_fins, mv_det, mv_cc, mv_c0, Nat.reduceAdd, Nat.reduceEqDiff, Nat.reduceLT, Nat.reduceLeDiff, Nat.reduceSub, reduceIte, decide_false, decide_true, Bool.false_eq_true, List.map_cons, List.map_nil, List.sum_cons, List.sum_nil, true_and, and_true, true_or, or_true, false_or, or_false, false_and, and_false, true_implies, false_implies, implies_true, not_true_eq_false, not_false_eq_true, lg_cmp_ge, lg_cmp_le, lg_cmp_gt, lg_cmp_lt, lg_cmp_eq, qX6_index, flX6s, cIX6s, cLX6s, csX6_index, sX6_index, sX1_determinant, sJ9_abs_067f4, ms_a, ms_l, K1, p0, g1, g1.1, mv_b01]
def sX6_table (kd : List (Nat × Nat)) : mv_S := ms_aiii (fun b _ _ _ h => b = 0 ∧ sbOk kd h) (fun _ l i k h v h' => v = some (.int (if inR (sbC h) l ∧ gHas (gn h (38 + 6 * l.toNatClampNeg)) i k then (gAt h (38 + 6 * l.toNatClampNeg) i k).toInt32 else -100000)) ∧ h' = h)
noncomputable def csX6_table (kd : List (Nat × Nat)) : mv_CS := (mv_cc 103 6 1 (sX6_latticeAt kd) (mv_cc 72 1 2 (sX1_has kd) (mv_cc 76 1 2 (sX1_at kd) mv_c0)))
theorem oX6_table {l : Launch} {b : Nat} {ad : Nat → Nat} {D : va_G} {cA : Nat → ClassId} {kd : List (Nat × Nat)} (had : ∀ i, i < kd.length → ad i = b + i) : mv_Own l (mv_room 2) b ad D cA kd RX6 flX6 cIX6 cLX6 (csX6_table kd) := (mv_oV lRX6_103 zX6_latticeAt rfl (by decide) (ctX6_latticeAt had) ⟨by decide, by decide⟩ (mv_oV lRX6_72 zX1_has rfl (by decide) (ctX1_has had) ⟨by decide, by decide⟩ (mv_oV lRX6_76 zX1_at rfl (by decide) (ctX1_at had) ⟨by decide, by decide⟩ (mv_o0 flX6_ok cIX6_ok cLX6_ok))))
set_option maxRecDepth 100000 in
set_option maxHeartbeats 4000000 in
theorem ctX6_table {l : Launch} {b : Nat} {ad : Nat → Nat} {D : va_G} {cA : Nat → ClassId} {kd : List (Nat × Nat)} (had : ∀ i, i < kd.length → ad i = b + i) : mv_Ct l b ad D cA kd yX6_table cX6_table 5 (some .int) 2 (sX6_table kd) := by
  refine mv_introF (rk := 1) tX6_table (mv_pf plRX6) kX6_table had ⟨(fun e => by cases e), (fun _ => rfl), (fun e => by cases e), (fun e => by cases e), (fun e => by cases e)⟩ (oX6_table had) ?_
  intro h as hp
  obtain ⟨x0, x1, x2, x3, rfl, hq⟩ := ms_aiii_inv hp
  refine ⟨Nat.le_of_ble_eq_true rfl, fun X hX => ?_⟩
  show X 0 [some (.ref x0), some (.int x1), some (.int x2), some (.int x3), none] [] h
  obtain ⟨rfl, hS⟩ := hq
  obtain ⟨⟨⟨K1, K2⟩, ⟨⟨p0, p1, p2, p3, p4, p5, p6⟩, pls, psh⟩, hC⟩, ⟨g1, g3, g5⟩, ⟨hw, hu, hr⟩, ⟨b29, b33⟩, hla⟩ := id hS
  by_cases hin : inR (sbC h) x1
  · have eA : sbAt h x1 = .ref (37 + 6 * x1.toNatClampNeg) := if_pos hin
    obtain ⟨a, ha, rfl⟩ := inR_nat hin (by have := hC.2; omega)
    have ca : (nI a).toNatClampNeg = a := nI_clamp (by have := hC.2; omega)
    rw [ca] at eA
    obtain ⟨l1, l2, l3, l4, l5, l6, l7⟩ := hla a (by have := hC.2; omega)
    refine mv_go hX 60 ?_
    simp only [mv_wps, mv_exq, mv_exr, mv_exn, mv_xg, mv_xpi, mv_xpl, mv_xpr, mv_xc, mv_xc2, mv_xs, mv_9z, mv_cqs, mv_calls, mv_lgz, mv_stz, mv_kz, mv_cz, mv_fvs, mv_ats, mv_ics, mv_rz, mv_tz, mv_cns, mv_nfs, mv_fins, mv_det, mv_cc, mv_c0, Nat.reduceAdd, Nat.reduceEqDiff, Nat.reduceLT, Nat.reduceLeDiff, Nat.reduceSub, reduceIte, decide_false, decide_true, Bool.false_eq_true, List.map_cons, List.map_nil, List.sum_cons, List.sum_nil, true_and, and_true, true_or, or_true, false_or, or_false, false_and, and_false, true_implies, false_implies, implies_true, not_true_eq_false, not_false_eq_true, lg_cmp_ge, lg_cmp_le, lg_cmp_gt, lg_cmp_lt, lg_cmp_eq, qX6_table, flX6s, cIX6s, cLX6s, csX6_table, sX6_table, sX6_latticeAt, sX1_has, sX1_at, ms_ai, ms_aii, ms_aiii, K1, hS, eA, l1, l3, l6, l6.1, mv_b01, ca]
    rw [show 37 + 6 * a + 1 = 38 + 6 * a by omega]
    exact ⟨fun h1 => by rw [if_neg (fun z => h1 z.2)], fun h1 => by rw [if_pos ⟨hin, Classical.not_not.mp h1⟩]⟩
  · have eA : sbAt h x1 = .null := if_neg hin
    refine mv_go hX 60 ?_
    simp only [mv_wps, mv_exq, mv_exr, mv_exn, mv_xg, mv_xpi, mv_xpl, mv_xpr, mv_xc, mv_xc2, mv_xs, mv_9z, mv_cqs, mv_calls, mv_lgz, mv_stz, mv_kz, mv_cz, mv_fvs, mv_ats, mv_ics, mv_rz, mv_tz, mv_cns, mv_nfs, mv_fins, mv_det, mv_cc, mv_c0, Nat.reduceAdd, Nat.reduceEqDiff, Nat.reduceLT, Nat.reduceLeDiff, Nat.reduceSub, reduceIte, decide_false, decide_true, Bool.false_eq_true, List.map_cons, List.map_nil, List.sum_cons, List.sum_nil, true_and, and_true, true_or, or_true, false_or, or_false, false_and, and_false, true_implies, false_implies, implies_true, not_true_eq_false, not_false_eq_true, lg_cmp_ge, lg_cmp_le, lg_cmp_gt, lg_cmp_lt, lg_cmp_eq, qX6_table, flX6s, cIX6s, cLX6s, csX6_table, sX6_table, sX6_latticeAt, sX1_has, sX1_at, ms_ai, ms_aii, ms_aiii, K1, hS, eA]
    rw [if_neg (fun z => hin z.1)]
def sX6_told (kd : List (Nat × Nat)) : mv_S := ms_ai (fun b _ h => b = 0 ∧ sbOk kd h) (fun _ i h v h' => v = some (.int (if i = 0 then h.1 0 7 else if i = 1 then h.1 1 0 else if i = 2 then h.1 (sbLs h) 1 else if i = 3 then h.1 3 0 else -1)) ∧ h' = h)
noncomputable def csX6_told (kd : List (Nat × Nat)) : mv_CS := (mv_cc 156 1 0 (sX1_lines kd) (mv_cc 206 0 0 (sX0_count kd) mv_c0))
theorem oX6_told {l : Launch} {b : Nat} {ad : Nat → Nat} {D : va_G} {cA : Nat → ClassId} {kd : List (Nat × Nat)} (had : ∀ i, i < kd.length → ad i = b + i) : mv_Own l (mv_room 1) b ad D cA kd RX6 flX6 cIX6 cLX6 (csX6_told kd) := (mv_oV lRX6_156 zX1_lines rfl (by decide) (ctX1_lines had) ⟨by decide, by decide⟩ (mv_oV lRX6_206 zX0_count rfl (by decide) (ctX0_count had) ⟨by decide, by decide⟩ (mv_o0 flX6_ok cIX6_ok cLX6_ok)))
set_option maxRecDepth 100000 in
set_option maxHeartbeats 4000000 in
theorem ctX6_told {l : Launch} {b : Nat} {ad : Nat → Nat} {D : va_G} {cA : Nat → ClassId} {kd : List (Nat × Nat)} (had : ∀ i, i < kd.length → ad i = b + i) : mv_Ct l b ad D cA kd yX6_told cX6_told 2 (some .int) 1 (sX6_told kd) := by
  refine mv_introF (rk := 1) tX6_told (mv_pf plRX6) kX6_told had ⟨(fun e => by cases e), (fun _ => rfl), (fun e => by cases e), (fun e => by cases e), (fun e => by cases e)⟩ (oX6_told had) ?_
  intro h as hp
  obtain ⟨x0, x1, rfl, hq⟩ := ms_ai_inv hp
  refine ⟨Nat.le_of_ble_eq_true rfl, fun X hX => ?_⟩
  show X 0 [some (.ref x0), some (.int x1)] [] h
  obtain ⟨rfl, hS⟩ := hq
  obtain ⟨⟨⟨K1, K2⟩, ⟨⟨p0, p1, p2, p3, p4, p5, p6⟩, pls, psh⟩, hC⟩, ⟨g1, g3, g5⟩, ⟨hw, hu, hr⟩, ⟨b29, b33⟩, hla⟩ := id hS
  obtain ⟨pl, psp⟩ := sbLs_eq hS.1.2.1
  have hL : boOk kd h (sbLs h) := by
    unfold sbLs
    split
    · exact b29
    · exact b33
  refine mv_go hX 1 ?_
  simp only [mv_wps, mv_exq, mv_exr, mv_exn, mv_xg, mv_xpi, mv_xpl, mv_xpr, mv_xc, mv_xc2, mv_xs, mv_9z, mv_cqs, mv_calls, mv_lgz, mv_stz, mv_kz, mv_cz, mv_fvs, mv_ats, mv_ics, mv_rz, mv_tz, mv_cns, mv_nfs, mv_fins, mv_det, mv_cc, mv_c0, Nat.reduceAdd, Nat.reduceEqDiff, Nat.reduceLT, Nat.reduceLeDiff, Nat.reduceSub, reduceIte, decide_false, decide_true, Bool.false_eq_true, List.map_cons, List.map_nil, List.sum_cons, List.sum_nil, true_and, and_true, true_or, or_true, false_or, or_false, false_and, and_false, true_implies, false_implies, implies_true, not_true_eq_false, not_false_eq_true, lg_cmp_ge, lg_cmp_le, lg_cmp_gt, lg_cmp_lt, lg_cmp_eq, qX6_told, flX6s, cIX6s, cLX6s, csX6_told, sX6_told, sX1_lines, sX0_count, ms_a, ms_ai, K1]
  refine ⟨fun j off hj e hle => ?_, fun ho => ?_, by decide⟩
  · rcases j with _ | _ | _ | _ | j
    · obtain rfl : x1 = 0 := i32_of (k := 0) e (by decide)
      obtain rfl : off = 31 := by simpa using hj.symm
      show X 32 [some (.ref 0), some (.int 0)] [] h
      refine mv_go hX 20 ?_
      simp only [mv_wps, mv_exq, mv_exr, mv_exn, mv_xg, mv_xpi, mv_xpl, mv_xpr, mv_xc, mv_xc2, mv_xs, mv_9z, mv_cqs, mv_calls, mv_lgz, mv_stz, mv_kz, mv_cz, mv_fvs, mv_ats, mv_ics, mv_rz, mv_tz, mv_cns, mv_nfs, mv_fins, mv_det, mv_cc, mv_c0, Nat.reduceAdd, Nat.reduceEqDiff, Nat.reduceLT, Nat.reduceLeDiff, Nat.reduceSub, reduceIte, decide_false, decide_true, Bool.false_eq_true, List.map_cons, List.map_nil, List.sum_cons, List.sum_nil, true_and, and_true, true_or, or_true, false_or, or_false, false_and, and_false, true_implies, false_implies, implies_true, not_true_eq_false, not_false_eq_true, lg_cmp_ge, lg_cmp_le, lg_cmp_gt, lg_cmp_lt, lg_cmp_eq, qX6_told, flX6s, cIX6s, cLX6s, csX6_told, sX6_told, sX1_lines, sX0_count, ms_a, ms_ai, K1, p0, p1, pl, g1, g1.1, g3, g3.1, hL, hL.1]
    · obtain rfl : x1 = 1 := i32_of (k := 1) e (by decide)
      obtain rfl : off = 36 := by simpa using hj.symm
      show X 37 [some (.ref 0), some (.int 1)] [] h
      refine mv_go hX 20 ?_
      simp only [mv_wps, mv_exq, mv_exr, mv_exn, mv_xg, mv_xpi, mv_xpl, mv_xpr, mv_xc, mv_xc2, mv_xs, mv_9z, mv_cqs, mv_calls, mv_lgz, mv_stz, mv_kz, mv_cz, mv_fvs, mv_ats, mv_ics, mv_rz, mv_tz, mv_cns, mv_nfs, mv_fins, mv_det, mv_cc, mv_c0, Nat.reduceAdd, Nat.reduceEqDiff, Nat.reduceLT, Nat.reduceLeDiff, Nat.reduceSub, reduceIte, decide_false, decide_true, Bool.false_eq_true, List.map_cons, List.map_nil, List.sum_cons, List.sum_nil, true_and, and_true, true_or, or_true, false_or, or_false, false_and, and_false, true_implies, false_implies, implies_true, not_true_eq_false, not_false_eq_true, lg_cmp_ge, lg_cmp_le, lg_cmp_gt, lg_cmp_lt, lg_cmp_eq, qX6_told, flX6s, cIX6s, cLX6s, csX6_told, sX6_told, sX1_lines, sX0_count, ms_a, ms_ai, K1, p0, p1, pl, g1, g1.1, g3, g3.1, hL, hL.1]
      rfl
    · obtain rfl : x1 = 2 := i32_of (k := 2) e (by decide)
      obtain rfl : off = 44 := by simpa using hj.symm
      show X 45 [some (.ref 0), some (.int 2)] [] h
      refine mv_go hX 20 ?_
      simp only [mv_wps, mv_exq, mv_exr, mv_exn, mv_xg, mv_xpi, mv_xpl, mv_xpr, mv_xc, mv_xc2, mv_xs, mv_9z, mv_cqs, mv_calls, mv_lgz, mv_stz, mv_kz, mv_cz, mv_fvs, mv_ats, mv_ics, mv_rz, mv_tz, mv_cns, mv_nfs, mv_fins, mv_det, mv_cc, mv_c0, Nat.reduceAdd, Nat.reduceEqDiff, Nat.reduceLT, Nat.reduceLeDiff, Nat.reduceSub, reduceIte, decide_false, decide_true, Bool.false_eq_true, List.map_cons, List.map_nil, List.sum_cons, List.sum_nil, true_and, and_true, true_or, or_true, false_or, or_false, false_and, and_false, true_implies, false_implies, implies_true, not_true_eq_false, not_false_eq_true, lg_cmp_ge, lg_cmp_le, lg_cmp_gt, lg_cmp_lt, lg_cmp_eq, qX6_told, flX6s, cIX6s, cLX6s, csX6_told, sX6_told, sX1_lines, sX0_count, ms_a, ms_ai, K1, p0, p1, pl, g1, g1.1, g3, g3.1, hL, hL.1]
      rfl
    · obtain rfl : x1 = 3 := i32_of (k := 3) e (by decide)
      obtain rfl : off = 52 := by simpa using hj.symm
      show X 53 [some (.ref 0), some (.int 3)] [] h
      refine mv_go hX 20 ?_
      simp only [mv_wps, mv_exq, mv_exr, mv_exn, mv_xg, mv_xpi, mv_xpl, mv_xpr, mv_xc, mv_xc2, mv_xs, mv_9z, mv_cqs, mv_calls, mv_lgz, mv_stz, mv_kz, mv_cz, mv_fvs, mv_ats, mv_ics, mv_rz, mv_tz, mv_cns, mv_nfs, mv_fins, mv_det, mv_cc, mv_c0, Nat.reduceAdd, Nat.reduceEqDiff, Nat.reduceLT, Nat.reduceLeDiff, Nat.reduceSub, reduceIte, decide_false, decide_true, Bool.false_eq_true, List.map_cons, List.map_nil, List.sum_cons, List.sum_nil, true_and, and_true, true_or, or_true, false_or, or_false, false_and, and_false, true_implies, false_implies, implies_true, not_true_eq_false, not_false_eq_true, lg_cmp_ge, lg_cmp_le, lg_cmp_gt, lg_cmp_lt, lg_cmp_eq, qX6_told, flX6s, cIX6s, cLX6s, csX6_told, sX6_told, sX1_lines, sX0_count, ms_a, ms_ai, K1, p0, p1, pl, g1, g1.1, g3, g3.1, hL, hL.1]
      rfl
    · exact absurd e (by omega)
  · have q0 : ¬ x1 = 0 := fun z => by rw [z] at ho; revert ho; decide
    have q1 : ¬ x1 = 1 := fun z => by rw [z] at ho; revert ho; decide
    have q2 : ¬ x1 = 2 := fun z => by rw [z] at ho; revert ho; decide
    have q3 : ¬ x1 = 3 := fun z => by rw [z] at ho; revert ho; decide
    refine mv_go hX 20 ?_
    simp only [mv_wps, mv_exq, mv_exr, mv_exn, mv_xg, mv_xpi, mv_xpl, mv_xpr, mv_xc, mv_xc2, mv_xs, mv_9z, mv_cqs, mv_calls, mv_lgz, mv_stz, mv_kz, mv_cz, mv_fvs, mv_ats, mv_ics, mv_rz, mv_tz, mv_cns, mv_nfs, mv_fins, mv_det, mv_cc, mv_c0, Nat.reduceAdd, Nat.reduceEqDiff, Nat.reduceLT, Nat.reduceLeDiff, Nat.reduceSub, reduceIte, decide_false, decide_true, Bool.false_eq_true, List.map_cons, List.map_nil, List.sum_cons, List.sum_nil, true_and, and_true, true_or, or_true, false_or, or_false, false_and, and_false, true_implies, false_implies, implies_true, not_true_eq_false, not_false_eq_true, lg_cmp_ge, lg_cmp_le, lg_cmp_gt, lg_cmp_lt, lg_cmp_eq, qX6_told, flX6s, cIX6s, cLX6s, csX6_told, sX6_told, sX1_lines, sX0_count, ms_a, ms_ai, K1]
    rw [if_neg q0, if_neg q1, if_neg q2, if_neg q3]
def sX6_row (kd : List (Nat × Nat)) : mv_S := ms_aii (fun b _ _ h => b = 0 ∧ sbOk kd h) (fun _ i k h v h' => v = some (.int (if bHas h (sbLs h) i k then (nbF (h.2.1 (sbLs h + 2)) (h.2.1 (sbLs h + 1)) (bw h (sbLs h)) k.toNatClampNeg (h.2.1 (sbLs h + 3) i.toNatClampNeg)).toInt32 else -100000)) ∧ h' = h)
noncomputable def csX6_row (kd : List (Nat × Nat)) : mv_CS := (mv_cc 130 0 2 (sX0_has kd) (mv_cc 131 0 2 (sX0_numberAt kd) mv_c0))
theorem oX6_row {l : Launch} {b : Nat} {ad : Nat → Nat} {D : va_G} {cA : Nat → ClassId} {kd : List (Nat × Nat)} (had : ∀ i, i < kd.length → ad i = b + i) : mv_Own l (mv_room 2) b ad D cA kd RX6 flX6 cIX6 cLX6 (csX6_row kd) := (mv_oV lRX6_130 zX0_has rfl (by decide) (ctX0_has had) ⟨by decide, by decide⟩ (mv_oV lRX6_131 zX0_numberAt rfl (by decide) (ctX0_numberAt had) ⟨by decide, by decide⟩ (mv_o0 flX6_ok cIX6_ok cLX6_ok)))
set_option maxRecDepth 100000 in
set_option maxHeartbeats 4000000 in
theorem ctX6_row {l : Launch} {b : Nat} {ad : Nat → Nat} {D : va_G} {cA : Nat → ClassId} {kd : List (Nat × Nat)} (had : ∀ i, i < kd.length → ad i = b + i) : mv_Ct l b ad D cA kd yX6_row cX6_row 3 (some .int) 2 (sX6_row kd) := by
  refine mv_introF (rk := 1) tX6_row (mv_pf plRX6) kX6_row had ⟨(fun e => by cases e), (fun _ => rfl), (fun e => by cases e), (fun e => by cases e), (fun e => by cases e)⟩ (oX6_row had) ?_
  intro h as hp
  obtain ⟨x0, x1, x2, rfl, hq⟩ := ms_aii_inv hp
  refine ⟨Nat.le_of_ble_eq_true rfl, fun X hX => ?_⟩
  show X 0 [some (.ref x0), some (.int x1), some (.int x2)] [] h
  obtain ⟨rfl, hS⟩ := hq
  obtain ⟨⟨⟨K1, K2⟩, ⟨⟨p0, p1, p2, p3, p4, p5, p6⟩, pls, psh⟩, hC⟩, ⟨g1, g3, g5⟩, ⟨hw, hu, hr⟩, ⟨b29, b33⟩, hla⟩ := id hS
  obtain ⟨pl, psp⟩ := sbLs_eq hS.1.2.1
  have hL : boOk kd h (sbLs h) := by
    unfold sbLs
    split
    · exact b29
    · exact b33
  refine mv_go hX 60 ?_
  simp only [mv_wps, mv_exq, mv_exr, mv_exn, mv_xg, mv_xpi, mv_xpl, mv_xpr, mv_xc, mv_xc2, mv_xs, mv_9z, mv_cqs, mv_calls, mv_lgz, mv_stz, mv_kz, mv_cz, mv_fvs, mv_ats, mv_ics, mv_rz, mv_tz, mv_cns, mv_nfs, mv_fins, mv_det, mv_cc, mv_c0, Nat.reduceAdd, Nat.reduceEqDiff, Nat.reduceLT, Nat.reduceLeDiff, Nat.reduceSub, reduceIte, decide_false, decide_true, Bool.false_eq_true, List.map_cons, List.map_nil, List.sum_cons, List.sum_nil, true_and, and_true, true_or, or_true, false_or, or_false, false_and, and_false, true_implies, false_implies, implies_true, not_true_eq_false, not_false_eq_true, lg_cmp_ge, lg_cmp_le, lg_cmp_gt, lg_cmp_lt, lg_cmp_eq, qX6_row, flX6s, cIX6s, cLX6s, csX6_row, sX6_row, sX0_has, sX0_numberAt, ms_aii, K1, pl, hL, hL.1, mv_b01]
  exact ⟨fun h1 => by rw [if_neg h1], fun h1 => by rw [if_pos (Classical.not_not.mp h1), if_pos (Classical.not_not.mp h1)]⟩
def sX6_size (kd : List (Nat × Nat)) : mv_S := ms_ai (fun b _ h => b = 0 ∧ sbOk kd h) (fun _ i h v h' => v = some (.long (if bHas h (sbLs h) i 0 then szOf (h.2.1 (sbLs h + 3) i.toNatClampNeg) else -1)) ∧ h' = h)
noncomputable def csX6_size (kd : List (Nat × Nat)) : mv_CS := (mv_cc 130 0 2 (sX0_has kd) (mv_cc 135 0 1 (sX0_sizeAt kd) mv_c0))
theorem oX6_size {l : Launch} {b : Nat} {ad : Nat → Nat} {D : va_G} {cA : Nat → ClassId} {kd : List (Nat × Nat)} (had : ∀ i, i < kd.length → ad i = b + i) : mv_Own l (mv_room 1) b ad D cA kd RX6 flX6 cIX6 cLX6 (csX6_size kd) := (mv_oV lRX6_130 zX0_has rfl (by decide) (ctX0_has had) ⟨by decide, by decide⟩ (mv_oV lRX6_135 zX0_sizeAt rfl (by decide) (ctX0_sizeAt had) ⟨by decide, by decide⟩ (mv_o0 flX6_ok cIX6_ok cLX6_ok)))
set_option maxRecDepth 100000 in
set_option maxHeartbeats 4000000 in
theorem ctX6_size {l : Launch} {b : Nat} {ad : Nat → Nat} {D : va_G} {cA : Nat → ClassId} {kd : List (Nat × Nat)} (had : ∀ i, i < kd.length → ad i = b + i) : mv_Ct l b ad D cA kd yX6_size cX6_size 2 (some .long) 1 (sX6_size kd) := by
  refine mv_introF (rk := 3) tX6_size (mv_pf plRX6) kX6_size had ⟨(fun e => by cases e), (fun e => by cases e), (fun e => by cases e), (fun _ => rfl), (fun e => by cases e)⟩ (oX6_size had) ?_
  intro h as hp
  obtain ⟨x0, x1, rfl, hq⟩ := ms_ai_inv hp
  refine ⟨Nat.le_of_ble_eq_true rfl, fun X hX => ?_⟩
  show X 0 [some (.ref x0), some (.int x1)] [] h
  obtain ⟨rfl, hS⟩ := hq
  obtain ⟨⟨⟨K1, K2⟩, ⟨⟨p0, p1, p2, p3, p4, p5, p6⟩, pls, psh⟩, hC⟩, ⟨g1, g3, g5⟩, ⟨hw, hu, hr⟩, ⟨b29, b33⟩, hla⟩ := id hS
  obtain ⟨pl, psp⟩ := sbLs_eq hS.1.2.1
  have hL : boOk kd h (sbLs h) := by
    unfold sbLs
    split
    · exact b29
    · exact b33
  refine mv_go hX 60 ?_
  simp only [mv_wps, mv_exq, mv_exr, mv_exn, mv_xg, mv_xpi, mv_xpl, mv_xpr, mv_xc, mv_xc2, mv_xs, mv_9z, mv_cqs, mv_calls, mv_lgz, mv_stz, mv_kz, mv_cz, mv_fvs, mv_ats, mv_ics, mv_rz, mv_tz, mv_cns, mv_nfs, mv_fins, mv_det, mv_cc, mv_c0, Nat.reduceAdd, Nat.reduceEqDiff, Nat.reduceLT, Nat.reduceLeDiff, Nat.reduceSub, reduceIte, decide_false, decide_true, Bool.false_eq_true, List.map_cons, List.map_nil, List.sum_cons, List.sum_nil, true_and, and_true, true_or, or_true, false_or, or_false, false_and, and_false, true_implies, false_implies, implies_true, not_true_eq_false, not_false_eq_true, lg_cmp_ge, lg_cmp_le, lg_cmp_gt, lg_cmp_lt, lg_cmp_eq, qX6_size, flX6s, cIX6s, cLX6s, csX6_size, sX6_size, sX0_has, sX0_sizeAt, ms_ai, ms_aii, K1, pl, hL, hL.1, mv_b01]
  exact ⟨fun h1 => by rw [if_neg h1], fun h1 => by rw [if_pos (Classical.not_not.mp h1), if_pos ⟨(Classical.not_not.mp h1).1, (Classical.not_not.mp h1).2.1⟩]⟩
