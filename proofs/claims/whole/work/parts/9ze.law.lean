set_option maxRecDepth 100000 in
set_option maxHeartbeats 4000000 in
theorem lc_sheet {L : Nat} {xs : Nat → Int32} {X : mv_K} (hX : lwX L xs X) {n : Nat} {h : mv_M} (hn : n + 7 ≤ L) (hL : L ≤ 3584) (z : iv kdF h h) (go : ∀ h', iv kdF h' h' → X 808 (lwL n) [] h') : X 136 (lwL n) [] h := by
  have v1 : vp_in (nI n + 1) L := vpL (j := 1) hn hL (by omega)
  unfold lwX at hX
  obtain ⟨p6, f6⟩ := lw_sheet (xs (nI n + 1).toNatClampNeg) h z
  refine mv_go hX 6 ?_
  simp only [mv_wps, mv_exq, mv_exr, mv_exn, mv_xg, mv_xpi, mv_xpl, mv_xpr, mv_xc, mv_xc2, mv_xs, mv_9z, mv_cqs, mv_calls, mv_lgz, mv_stz, mv_kz, mv_cz, mv_fvs, mv_ats, mv_ics, mv_rz, mv_tz, mv_cns, mv_nfs, mv_fins, mv_det, mv_cc, mv_c0, Nat.reduceAdd, Nat.reduceEqDiff, Nat.reduceLT, Nat.reduceLeDiff, Nat.reduceSub, reduceIte, decide_false, decide_true, Bool.false_eq_true, List.map_cons, List.map_nil, List.sum_cons, List.sum_nil, true_and, and_true, true_or, or_true, false_or, or_false, false_and, and_false, true_implies, false_implies, implies_true, not_true_eq_false, not_false_eq_true, lg_cmp_ge, lg_cmp_le, lg_cmp_gt, lg_cmp_lt, lg_cmp_eq, mv_exL, qL136, qL137, qL138, qL139, qL140, qL141, qL142, csL_13, kdF_0, v1]
  refine ⟨p6, fun v h1 q6 => ?_⟩
  obtain ⟨⟨x, rfl⟩, p7, f7⟩ := f6 v h1 q6
  refine mv_go hX 6 ?_
  simp only [mv_wps, mv_exq, mv_exr, mv_exn, mv_xg, mv_xpi, mv_xpl, mv_xpr, mv_xc, mv_xc2, mv_xs, mv_9z, mv_cqs, mv_calls, mv_lgz, mv_stz, mv_kz, mv_cz, mv_fvs, mv_ats, mv_ics, mv_rz, mv_tz, mv_cns, mv_nfs, mv_fins, mv_det, mv_cc, mv_c0, Nat.reduceAdd, Nat.reduceEqDiff, Nat.reduceLT, Nat.reduceLeDiff, Nat.reduceSub, reduceIte, decide_false, decide_true, Bool.false_eq_true, List.map_cons, List.map_nil, List.sum_cons, List.sum_nil, true_and, and_true, true_or, or_true, false_or, or_false, false_and, and_false, true_implies, false_implies, implies_true, not_true_eq_false, not_false_eq_true, lg_cmp_ge, lg_cmp_le, lg_cmp_gt, lg_cmp_lt, lg_cmp_eq, mv_exL, qL145, qL146, qL147, qL148, qL149, qL150, qL151, csL_17, kdF_157, v1]
  refine ⟨p7, fun v' h2 q7 => ?_⟩
  obtain ⟨rfl, z2⟩ := f7 v' h2 q7
  refine mv_go hX 0 ?_
  simp only [mv_wps, mv_exq, mv_exr, mv_exn, mv_xg, mv_xpi, mv_xpl, mv_xpr, mv_xc, mv_xc2, mv_xs, mv_9z, mv_cqs, mv_calls, mv_lgz, mv_stz, mv_kz, mv_cz, mv_fvs, mv_ats, mv_ics, mv_rz, mv_tz, mv_cns, mv_nfs, mv_fins, mv_det, mv_cc, mv_c0, Nat.reduceAdd, Nat.reduceEqDiff, Nat.reduceLT, Nat.reduceLeDiff, Nat.reduceSub, reduceIte, decide_false, decide_true, Bool.false_eq_true, List.map_cons, List.map_nil, List.sum_cons, List.sum_nil, true_and, and_true, true_or, or_true, false_or, or_false, false_and, and_false, true_implies, false_implies, implies_true, not_true_eq_false, not_false_eq_true, lg_cmp_ge, lg_cmp_le, lg_cmp_gt, lg_cmp_lt, lg_cmp_eq, qL154]
  exact go h2 z2
set_option maxRecDepth 100000 in
set_option maxHeartbeats 4000000 in
theorem lc_cell {L : Nat} {xs : Nat → Int32} {X : mv_K} (hX : lwX L xs X) {n : Nat} {h : mv_M} (hn : n + 7 ≤ L) (hL : L ≤ 3584) (z : iv kdF h h) (go : ∀ h', iv kdF h' h' → X 808 (lwL n) [] h') : X 159 (lwL n) [] h := by
  have v1 : vp_in (nI n + 1) L := vpL (j := 1) hn hL (by omega)
  have v2 : vp_in (nI n + 2) L := vpL (j := 2) hn hL (by omega)
  have v3 : vp_in (nI n + 3) L := vpL (j := 3) hn hL (by omega)
  unfold lwX at hX
  obtain ⟨p6, f6⟩ := lw_cell (xs (nI n + 1).toNatClampNeg) (xs (nI n + 2).toNatClampNeg) (xs (nI n + 3).toNatClampNeg) h z
  refine mv_go hX 16 ?_
  simp only [mv_wps, mv_exq, mv_exr, mv_exn, mv_xg, mv_xpi, mv_xpl, mv_xpr, mv_xc, mv_xc2, mv_xs, mv_9z, mv_cqs, mv_calls, mv_lgz, mv_stz, mv_kz, mv_cz, mv_fvs, mv_ats, mv_ics, mv_rz, mv_tz, mv_cns, mv_nfs, mv_fins, mv_det, mv_cc, mv_c0, Nat.reduceAdd, Nat.reduceEqDiff, Nat.reduceLT, Nat.reduceLeDiff, Nat.reduceSub, reduceIte, decide_false, decide_true, Bool.false_eq_true, List.map_cons, List.map_nil, List.sum_cons, List.sum_nil, true_and, and_true, true_or, or_true, false_or, or_false, false_and, and_false, true_implies, false_implies, implies_true, not_true_eq_false, not_false_eq_true, lg_cmp_ge, lg_cmp_le, lg_cmp_gt, lg_cmp_lt, lg_cmp_eq, mv_exL, qL159, qL160, qL161, qL162, qL163, qL164, qL165, qL166, qL167, qL168, qL169, qL170, qL171, qL172, qL173, qL174, qL175, csL_18, kdF_0, v1, v2, v3]
  refine ⟨p6, fun v h1 q6 => ?_⟩
  obtain ⟨⟨x, rfl⟩, p7, f7⟩ := f6 v h1 q6
  refine mv_go hX 16 ?_
  simp only [mv_wps, mv_exq, mv_exr, mv_exn, mv_xg, mv_xpi, mv_xpl, mv_xpr, mv_xc, mv_xc2, mv_xs, mv_9z, mv_cqs, mv_calls, mv_lgz, mv_stz, mv_kz, mv_cz, mv_fvs, mv_ats, mv_ics, mv_rz, mv_tz, mv_cns, mv_nfs, mv_fins, mv_det, mv_cc, mv_c0, Nat.reduceAdd, Nat.reduceEqDiff, Nat.reduceLT, Nat.reduceLeDiff, Nat.reduceSub, reduceIte, decide_false, decide_true, Bool.false_eq_true, List.map_cons, List.map_nil, List.sum_cons, List.sum_nil, true_and, and_true, true_or, or_true, false_or, or_false, false_and, and_false, true_implies, false_implies, implies_true, not_true_eq_false, not_false_eq_true, lg_cmp_ge, lg_cmp_le, lg_cmp_gt, lg_cmp_lt, lg_cmp_eq, mv_exL, qL178, qL179, qL180, qL181, qL182, qL183, qL184, qL185, qL186, qL187, qL188, qL189, qL190, qL191, qL192, qL193, qL194, csL_22, kdF_157, v1, v2, v3]
  refine ⟨p7, fun v' h2 q7 => ?_⟩
  obtain ⟨rfl, z2⟩ := f7 v' h2 q7
  refine mv_go hX 0 ?_
  simp only [mv_wps, mv_exq, mv_exr, mv_exn, mv_xg, mv_xpi, mv_xpl, mv_xpr, mv_xc, mv_xc2, mv_xs, mv_9z, mv_cqs, mv_calls, mv_lgz, mv_stz, mv_kz, mv_cz, mv_fvs, mv_ats, mv_ics, mv_rz, mv_tz, mv_cns, mv_nfs, mv_fins, mv_det, mv_cc, mv_c0, Nat.reduceAdd, Nat.reduceEqDiff, Nat.reduceLT, Nat.reduceLeDiff, Nat.reduceSub, reduceIte, decide_false, decide_true, Bool.false_eq_true, List.map_cons, List.map_nil, List.sum_cons, List.sum_nil, true_and, and_true, true_or, or_true, false_or, or_false, false_and, and_false, true_implies, false_implies, implies_true, not_true_eq_false, not_false_eq_true, lg_cmp_ge, lg_cmp_le, lg_cmp_gt, lg_cmp_lt, lg_cmp_eq, qL197]
  exact go h2 z2
set_option maxRecDepth 100000 in
set_option maxHeartbeats 4000000 in
theorem lc_cellOf {L : Nat} {xs : Nat → Int32} {X : mv_K} (hX : lwX L xs X) {n : Nat} {h : mv_M} (hn : n + 7 ≤ L) (hL : L ≤ 3584) (z : iv kdF h h) (go : ∀ h', iv kdF h' h' → X 808 (lwL n) [] h') : X 202 (lwL n) [] h := by
  have v1 : vp_in (nI n + 1) L := vpL (j := 1) hn hL (by omega)
  have v2 : vp_in (nI n + 2) L := vpL (j := 2) hn hL (by omega)
  unfold lwX at hX
  obtain ⟨p6, f6⟩ := lw_cellOf (xs (nI n + 1).toNatClampNeg) (xs (nI n + 2).toNatClampNeg) h z
  refine mv_go hX 11 ?_
  simp only [mv_wps, mv_exq, mv_exr, mv_exn, mv_xg, mv_xpi, mv_xpl, mv_xpr, mv_xc, mv_xc2, mv_xs, mv_9z, mv_cqs, mv_calls, mv_lgz, mv_stz, mv_kz, mv_cz, mv_fvs, mv_ats, mv_ics, mv_rz, mv_tz, mv_cns, mv_nfs, mv_fins, mv_det, mv_cc, mv_c0, Nat.reduceAdd, Nat.reduceEqDiff, Nat.reduceLT, Nat.reduceLeDiff, Nat.reduceSub, reduceIte, decide_false, decide_true, Bool.false_eq_true, List.map_cons, List.map_nil, List.sum_cons, List.sum_nil, true_and, and_true, true_or, or_true, false_or, or_false, false_and, and_false, true_implies, false_implies, implies_true, not_true_eq_false, not_false_eq_true, lg_cmp_ge, lg_cmp_le, lg_cmp_gt, lg_cmp_lt, lg_cmp_eq, mv_exL, qL202, qL203, qL204, qL205, qL206, qL207, qL208, qL209, qL210, qL211, qL212, qL213, csL_23, kdF_0, v1, v2]
  refine ⟨p6, fun v h1 q6 => ?_⟩
  obtain ⟨⟨x, rfl⟩, p7, f7⟩ := f6 v h1 q6
  refine mv_go hX 11 ?_
  simp only [mv_wps, mv_exq, mv_exr, mv_exn, mv_xg, mv_xpi, mv_xpl, mv_xpr, mv_xc, mv_xc2, mv_xs, mv_9z, mv_cqs, mv_calls, mv_lgz, mv_stz, mv_kz, mv_cz, mv_fvs, mv_ats, mv_ics, mv_rz, mv_tz, mv_cns, mv_nfs, mv_fins, mv_det, mv_cc, mv_c0, Nat.reduceAdd, Nat.reduceEqDiff, Nat.reduceLT, Nat.reduceLeDiff, Nat.reduceSub, reduceIte, decide_false, decide_true, Bool.false_eq_true, List.map_cons, List.map_nil, List.sum_cons, List.sum_nil, true_and, and_true, true_or, or_true, false_or, or_false, false_and, and_false, true_implies, false_implies, implies_true, not_true_eq_false, not_false_eq_true, lg_cmp_ge, lg_cmp_le, lg_cmp_gt, lg_cmp_lt, lg_cmp_eq, mv_exL, qL216, qL217, qL218, qL219, qL220, qL221, qL222, qL223, qL224, qL225, qL226, qL227, csL_27, kdF_157, v1, v2]
  refine ⟨p7, fun v' h2 q7 => ?_⟩
  obtain ⟨rfl, z2⟩ := f7 v' h2 q7
  refine mv_go hX 0 ?_
  simp only [mv_wps, mv_exq, mv_exr, mv_exn, mv_xg, mv_xpi, mv_xpl, mv_xpr, mv_xc, mv_xc2, mv_xs, mv_9z, mv_cqs, mv_calls, mv_lgz, mv_stz, mv_kz, mv_cz, mv_fvs, mv_ats, mv_ics, mv_rz, mv_tz, mv_cns, mv_nfs, mv_fins, mv_det, mv_cc, mv_c0, Nat.reduceAdd, Nat.reduceEqDiff, Nat.reduceLT, Nat.reduceLeDiff, Nat.reduceSub, reduceIte, decide_false, decide_true, Bool.false_eq_true, List.map_cons, List.map_nil, List.sum_cons, List.sum_nil, true_and, and_true, true_or, or_true, false_or, or_false, false_and, and_false, true_implies, false_implies, implies_true, not_true_eq_false, not_false_eq_true, lg_cmp_ge, lg_cmp_le, lg_cmp_gt, lg_cmp_lt, lg_cmp_eq, qL230]
  exact go h2 z2
set_option maxRecDepth 100000 in
set_option maxHeartbeats 4000000 in
theorem lc_take {L : Nat} {xs : Nat → Int32} {X : mv_K} (hX : lwX L xs X) {n : Nat} {h : mv_M} (hn : n + 7 ≤ L) (hL : L ≤ 3584) (z : iv kdF h h) (go : ∀ h', iv kdF h' h' → X 808 (lwL n) [] h') : X 235 (lwL n) [] h := by
  unfold lwX at hX
  obtain ⟨p6, f6⟩ := lw_take  h z
  refine mv_go hX 1 ?_
  simp only [mv_wps, mv_exq, mv_exr, mv_exn, mv_xg, mv_xpi, mv_xpl, mv_xpr, mv_xc, mv_xc2, mv_xs, mv_9z, mv_cqs, mv_calls, mv_lgz, mv_stz, mv_kz, mv_cz, mv_fvs, mv_ats, mv_ics, mv_rz, mv_tz, mv_cns, mv_nfs, mv_fins, mv_det, mv_cc, mv_c0, Nat.reduceAdd, Nat.reduceEqDiff, Nat.reduceLT, Nat.reduceLeDiff, Nat.reduceSub, reduceIte, decide_false, decide_true, Bool.false_eq_true, List.map_cons, List.map_nil, List.sum_cons, List.sum_nil, true_and, and_true, true_or, or_true, false_or, or_false, false_and, and_false, true_implies, false_implies, implies_true, not_true_eq_false, not_false_eq_true, lg_cmp_ge, lg_cmp_le, lg_cmp_gt, lg_cmp_lt, lg_cmp_eq, mv_exL, qL235, qL236, csL_28, kdF_0]
  refine ⟨p6, fun v h1 q6 => ?_⟩
  obtain ⟨⟨x, rfl⟩, p7, f7⟩ := f6 v h1 q6
  refine mv_go hX 1 ?_
  simp only [mv_wps, mv_exq, mv_exr, mv_exn, mv_xg, mv_xpi, mv_xpl, mv_xpr, mv_xc, mv_xc2, mv_xs, mv_9z, mv_cqs, mv_calls, mv_lgz, mv_stz, mv_kz, mv_cz, mv_fvs, mv_ats, mv_ics, mv_rz, mv_tz, mv_cns, mv_nfs, mv_fins, mv_det, mv_cc, mv_c0, Nat.reduceAdd, Nat.reduceEqDiff, Nat.reduceLT, Nat.reduceLeDiff, Nat.reduceSub, reduceIte, decide_false, decide_true, Bool.false_eq_true, List.map_cons, List.map_nil, List.sum_cons, List.sum_nil, true_and, and_true, true_or, or_true, false_or, or_false, false_and, and_false, true_implies, false_implies, implies_true, not_true_eq_false, not_false_eq_true, lg_cmp_ge, lg_cmp_le, lg_cmp_gt, lg_cmp_lt, lg_cmp_eq, mv_exL, qL239, qL240, csL_32, kdF_157]
  refine ⟨p7, fun v' h2 q7 => ?_⟩
  obtain ⟨rfl, z2⟩ := f7 v' h2 q7
  refine mv_go hX 0 ?_
  simp only [mv_wps, mv_exq, mv_exr, mv_exn, mv_xg, mv_xpi, mv_xpl, mv_xpr, mv_xc, mv_xc2, mv_xs, mv_9z, mv_cqs, mv_calls, mv_lgz, mv_stz, mv_kz, mv_cz, mv_fvs, mv_ats, mv_ics, mv_rz, mv_tz, mv_cns, mv_nfs, mv_fins, mv_det, mv_cc, mv_c0, Nat.reduceAdd, Nat.reduceEqDiff, Nat.reduceLT, Nat.reduceLeDiff, Nat.reduceSub, reduceIte, decide_false, decide_true, Bool.false_eq_true, List.map_cons, List.map_nil, List.sum_cons, List.sum_nil, true_and, and_true, true_or, or_true, false_or, or_false, false_and, and_false, true_implies, false_implies, implies_true, not_true_eq_false, not_false_eq_true, lg_cmp_ge, lg_cmp_le, lg_cmp_gt, lg_cmp_lt, lg_cmp_eq, qL243]
  exact go h2 z2
set_option maxRecDepth 100000 in
set_option maxHeartbeats 4000000 in
theorem lc_table {L : Nat} {xs : Nat → Int32} {X : mv_K} (hX : lwX L xs X) {n : Nat} {h : mv_M} (hn : n + 7 ≤ L) (hL : L ≤ 3584) (z : iv kdF h h) (go : ∀ h', iv kdF h' h' → X 808 (lwL n) [] h') : X 248 (lwL n) [] h := by
  have v1 : vp_in (nI n + 1) L := vpL (j := 1) hn hL (by omega)
  have v2 : vp_in (nI n + 2) L := vpL (j := 2) hn hL (by omega)
  have v3 : vp_in (nI n + 3) L := vpL (j := 3) hn hL (by omega)
  unfold lwX at hX
  obtain ⟨p6, f6⟩ := lw_table (xs (nI n + 1).toNatClampNeg) (xs (nI n + 2).toNatClampNeg) (xs (nI n + 3).toNatClampNeg) h z
  refine mv_go hX 16 ?_
  simp only [mv_wps, mv_exq, mv_exr, mv_exn, mv_xg, mv_xpi, mv_xpl, mv_xpr, mv_xc, mv_xc2, mv_xs, mv_9z, mv_cqs, mv_calls, mv_lgz, mv_stz, mv_kz, mv_cz, mv_fvs, mv_ats, mv_ics, mv_rz, mv_tz, mv_cns, mv_nfs, mv_fins, mv_det, mv_cc, mv_c0, Nat.reduceAdd, Nat.reduceEqDiff, Nat.reduceLT, Nat.reduceLeDiff, Nat.reduceSub, reduceIte, decide_false, decide_true, Bool.false_eq_true, List.map_cons, List.map_nil, List.sum_cons, List.sum_nil, true_and, and_true, true_or, or_true, false_or, or_false, false_and, and_false, true_implies, false_implies, implies_true, not_true_eq_false, not_false_eq_true, lg_cmp_ge, lg_cmp_le, lg_cmp_gt, lg_cmp_lt, lg_cmp_eq, mv_exL, qL248, qL249, qL250, qL251, qL252, qL253, qL254, qL255, qL256, qL257, qL258, qL259, qL260, qL261, qL262, qL263, qL264, csL_33, kdF_0, v1, v2, v3]
  refine ⟨p6, fun v h1 q6 => ?_⟩
  obtain ⟨⟨x, rfl⟩, p7, f7⟩ := f6 v h1 q6
  refine mv_go hX 16 ?_
  simp only [mv_wps, mv_exq, mv_exr, mv_exn, mv_xg, mv_xpi, mv_xpl, mv_xpr, mv_xc, mv_xc2, mv_xs, mv_9z, mv_cqs, mv_calls, mv_lgz, mv_stz, mv_kz, mv_cz, mv_fvs, mv_ats, mv_ics, mv_rz, mv_tz, mv_cns, mv_nfs, mv_fins, mv_det, mv_cc, mv_c0, Nat.reduceAdd, Nat.reduceEqDiff, Nat.reduceLT, Nat.reduceLeDiff, Nat.reduceSub, reduceIte, decide_false, decide_true, Bool.false_eq_true, List.map_cons, List.map_nil, List.sum_cons, List.sum_nil, true_and, and_true, true_or, or_true, false_or, or_false, false_and, and_false, true_implies, false_implies, implies_true, not_true_eq_false, not_false_eq_true, lg_cmp_ge, lg_cmp_le, lg_cmp_gt, lg_cmp_lt, lg_cmp_eq, mv_exL, qL267, qL268, qL269, qL270, qL271, qL272, qL273, qL274, qL275, qL276, qL277, qL278, qL279, qL280, qL281, qL282, qL283, csL_37, kdF_157, v1, v2, v3]
  refine ⟨p7, fun v' h2 q7 => ?_⟩
  obtain ⟨rfl, z2⟩ := f7 v' h2 q7
  refine mv_go hX 0 ?_
  simp only [mv_wps, mv_exq, mv_exr, mv_exn, mv_xg, mv_xpi, mv_xpl, mv_xpr, mv_xc, mv_xc2, mv_xs, mv_9z, mv_cqs, mv_calls, mv_lgz, mv_stz, mv_kz, mv_cz, mv_fvs, mv_ats, mv_ics, mv_rz, mv_tz, mv_cns, mv_nfs, mv_fins, mv_det, mv_cc, mv_c0, Nat.reduceAdd, Nat.reduceEqDiff, Nat.reduceLT, Nat.reduceLeDiff, Nat.reduceSub, reduceIte, decide_false, decide_true, Bool.false_eq_true, List.map_cons, List.map_nil, List.sum_cons, List.sum_nil, true_and, and_true, true_or, or_true, false_or, or_false, false_and, and_false, true_implies, false_implies, implies_true, not_true_eq_false, not_false_eq_true, lg_cmp_ge, lg_cmp_le, lg_cmp_gt, lg_cmp_lt, lg_cmp_eq, qL286]
  exact go h2 z2
set_option maxRecDepth 100000 in
set_option maxHeartbeats 4000000 in
theorem lc_about {L : Nat} {xs : Nat → Int32} {X : mv_K} (hX : lwX L xs X) {n : Nat} {h : mv_M} (hn : n + 7 ≤ L) (hL : L ≤ 3584) (z : iv kdF h h) (go : ∀ h', iv kdF h' h' → X 808 (lwL n) [] h') : X 291 (lwL n) [] h := by
  have v1 : vp_in (nI n + 1) L := vpL (j := 1) hn hL (by omega)
  have v2 : vp_in (nI n + 2) L := vpL (j := 2) hn hL (by omega)
  unfold lwX at hX
  obtain ⟨p6, f6⟩ := lw_about (xs (nI n + 1).toNatClampNeg) (xs (nI n + 2).toNatClampNeg) h z
  refine mv_go hX 11 ?_
  simp only [mv_wps, mv_exq, mv_exr, mv_exn, mv_xg, mv_xpi, mv_xpl, mv_xpr, mv_xc, mv_xc2, mv_xs, mv_9z, mv_cqs, mv_calls, mv_lgz, mv_stz, mv_kz, mv_cz, mv_fvs, mv_ats, mv_ics, mv_rz, mv_tz, mv_cns, mv_nfs, mv_fins, mv_det, mv_cc, mv_c0, Nat.reduceAdd, Nat.reduceEqDiff, Nat.reduceLT, Nat.reduceLeDiff, Nat.reduceSub, reduceIte, decide_false, decide_true, Bool.false_eq_true, List.map_cons, List.map_nil, List.sum_cons, List.sum_nil, true_and, and_true, true_or, or_true, false_or, or_false, false_and, and_false, true_implies, false_implies, implies_true, not_true_eq_false, not_false_eq_true, lg_cmp_ge, lg_cmp_le, lg_cmp_gt, lg_cmp_lt, lg_cmp_eq, mv_exL, qL291, qL292, qL293, qL294, qL295, qL296, qL297, qL298, qL299, qL300, qL301, qL302, csL_38, kdF_0, v1, v2]
  refine ⟨p6, fun v h1 q6 => ?_⟩
  obtain ⟨⟨x, rfl⟩, p7, f7⟩ := f6 v h1 q6
  refine mv_go hX 11 ?_
  simp only [mv_wps, mv_exq, mv_exr, mv_exn, mv_xg, mv_xpi, mv_xpl, mv_xpr, mv_xc, mv_xc2, mv_xs, mv_9z, mv_cqs, mv_calls, mv_lgz, mv_stz, mv_kz, mv_cz, mv_fvs, mv_ats, mv_ics, mv_rz, mv_tz, mv_cns, mv_nfs, mv_fins, mv_det, mv_cc, mv_c0, Nat.reduceAdd, Nat.reduceEqDiff, Nat.reduceLT, Nat.reduceLeDiff, Nat.reduceSub, reduceIte, decide_false, decide_true, Bool.false_eq_true, List.map_cons, List.map_nil, List.sum_cons, List.sum_nil, true_and, and_true, true_or, or_true, false_or, or_false, false_and, and_false, true_implies, false_implies, implies_true, not_true_eq_false, not_false_eq_true, lg_cmp_ge, lg_cmp_le, lg_cmp_gt, lg_cmp_lt, lg_cmp_eq, mv_exL, qL305, qL306, qL307, qL308, qL309, qL310, qL311, qL312, qL313, qL314, qL315, qL316, csL_42, kdF_157, v1, v2]
  refine ⟨p7, fun v' h2 q7 => ?_⟩
  obtain ⟨rfl, z2⟩ := f7 v' h2 q7
  refine mv_go hX 1 ?_
  simp only [mv_wps, mv_exq, mv_exr, mv_exn, mv_xg, mv_xpi, mv_xpl, mv_xpr, mv_xc, mv_xc2, mv_xs, mv_9z, mv_cqs, mv_calls, mv_lgz, mv_stz, mv_kz, mv_cz, mv_fvs, mv_ats, mv_ics, mv_rz, mv_tz, mv_cns, mv_nfs, mv_fins, mv_det, mv_cc, mv_c0, Nat.reduceAdd, Nat.reduceEqDiff, Nat.reduceLT, Nat.reduceLeDiff, Nat.reduceSub, reduceIte, decide_false, decide_true, Bool.false_eq_true, List.map_cons, List.map_nil, List.sum_cons, List.sum_nil, true_and, and_true, true_or, or_true, false_or, or_false, false_and, and_false, true_implies, false_implies, implies_true, not_true_eq_false, not_false_eq_true, lg_cmp_ge, lg_cmp_le, lg_cmp_gt, lg_cmp_lt, lg_cmp_eq, qL319, qL320]
  exact go h2 z2
set_option maxRecDepth 100000 in
set_option maxHeartbeats 4000000 in
theorem lc_rows {L : Nat} {xs : Nat → Int32} {X : mv_K} (hX : lwX L xs X) {n : Nat} {h : mv_M} (hn : n + 7 ≤ L) (hL : L ≤ 3584) (z : iv kdF h h) (go : ∀ h', iv kdF h' h' → X 808 (lwL n) [] h') : X 325 (lwL n) [] h := by
  have v1 : vp_in (nI n + 1) L := vpL (j := 1) hn hL (by omega)
  have v2 : vp_in (nI n + 2) L := vpL (j := 2) hn hL (by omega)
  unfold lwX at hX
  obtain ⟨p6, f6⟩ := lw_rows (xs (nI n + 1).toNatClampNeg) (xs (nI n + 2).toNatClampNeg) h z
  refine mv_go hX 11 ?_
  simp only [mv_wps, mv_exq, mv_exr, mv_exn, mv_xg, mv_xpi, mv_xpl, mv_xpr, mv_xc, mv_xc2, mv_xs, mv_9z, mv_cqs, mv_calls, mv_lgz, mv_stz, mv_kz, mv_cz, mv_fvs, mv_ats, mv_ics, mv_rz, mv_tz, mv_cns, mv_nfs, mv_fins, mv_det, mv_cc, mv_c0, Nat.reduceAdd, Nat.reduceEqDiff, Nat.reduceLT, Nat.reduceLeDiff, Nat.reduceSub, reduceIte, decide_false, decide_true, Bool.false_eq_true, List.map_cons, List.map_nil, List.sum_cons, List.sum_nil, true_and, and_true, true_or, or_true, false_or, or_false, false_and, and_false, true_implies, false_implies, implies_true, not_true_eq_false, not_false_eq_true, lg_cmp_ge, lg_cmp_le, lg_cmp_gt, lg_cmp_lt, lg_cmp_eq, mv_exL, qL325, qL326, qL327, qL328, qL329, qL330, qL331, qL332, qL333, qL334, qL335, qL336, csL_43, kdF_0, v1, v2]
  refine ⟨p6, fun v h1 q6 => ?_⟩
  obtain ⟨⟨x, rfl⟩, p7, f7⟩ := f6 v h1 q6
  refine mv_go hX 11 ?_
  simp only [mv_wps, mv_exq, mv_exr, mv_exn, mv_xg, mv_xpi, mv_xpl, mv_xpr, mv_xc, mv_xc2, mv_xs, mv_9z, mv_cqs, mv_calls, mv_lgz, mv_stz, mv_kz, mv_cz, mv_fvs, mv_ats, mv_ics, mv_rz, mv_tz, mv_cns, mv_nfs, mv_fins, mv_det, mv_cc, mv_c0, Nat.reduceAdd, Nat.reduceEqDiff, Nat.reduceLT, Nat.reduceLeDiff, Nat.reduceSub, reduceIte, decide_false, decide_true, Bool.false_eq_true, List.map_cons, List.map_nil, List.sum_cons, List.sum_nil, true_and, and_true, true_or, or_true, false_or, or_false, false_and, and_false, true_implies, false_implies, implies_true, not_true_eq_false, not_false_eq_true, lg_cmp_ge, lg_cmp_le, lg_cmp_gt, lg_cmp_lt, lg_cmp_eq, mv_exL, qL339, qL340, qL341, qL342, qL343, qL344, qL345, qL346, qL347, qL348, qL349, qL350, csL_46, kdF_157, v1, v2]
  refine ⟨p7, fun v' h2 q7 => ?_⟩
  obtain ⟨rfl, z2⟩ := f7 v' h2 q7
  refine mv_go hX 0 ?_
  simp only [mv_wps, mv_exq, mv_exr, mv_exn, mv_xg, mv_xpi, mv_xpl, mv_xpr, mv_xc, mv_xc2, mv_xs, mv_9z, mv_cqs, mv_calls, mv_lgz, mv_stz, mv_kz, mv_cz, mv_fvs, mv_ats, mv_ics, mv_rz, mv_tz, mv_cns, mv_nfs, mv_fins, mv_det, mv_cc, mv_c0, Nat.reduceAdd, Nat.reduceEqDiff, Nat.reduceLT, Nat.reduceLeDiff, Nat.reduceSub, reduceIte, decide_false, decide_true, Bool.false_eq_true, List.map_cons, List.map_nil, List.sum_cons, List.sum_nil, true_and, and_true, true_or, or_true, false_or, or_false, false_and, and_false, true_implies, false_implies, implies_true, not_true_eq_false, not_false_eq_true, lg_cmp_ge, lg_cmp_le, lg_cmp_gt, lg_cmp_lt, lg_cmp_eq, qL353]
  exact go h2 z2
set_option maxRecDepth 100000 in
set_option maxHeartbeats 4000000 in
theorem lc_theta {L : Nat} {xs : Nat → Int32} {X : mv_K} (hX : lwX L xs X) {n : Nat} {h : mv_M} (hn : n + 7 ≤ L) (hL : L ≤ 3584) (z : iv kdF h h) (go : ∀ h', iv kdF h' h' → X 808 (lwL n) [] h') : X 358 (lwL n) [] h := by
  have v1 : vp_in (nI n + 1) L := vpL (j := 1) hn hL (by omega)
  have v2 : vp_in (nI n + 2) L := vpL (j := 2) hn hL (by omega)
  unfold lwX at hX
  obtain ⟨p6, f6⟩ := lw_theta (xs (nI n + 1).toNatClampNeg) (xs (nI n + 2).toNatClampNeg) h z
  refine mv_go hX 11 ?_
  simp only [mv_wps, mv_exq, mv_exr, mv_exn, mv_xg, mv_xpi, mv_xpl, mv_xpr, mv_xc, mv_xc2, mv_xs, mv_9z, mv_cqs, mv_calls, mv_lgz, mv_stz, mv_kz, mv_cz, mv_fvs, mv_ats, mv_ics, mv_rz, mv_tz, mv_cns, mv_nfs, mv_fins, mv_det, mv_cc, mv_c0, Nat.reduceAdd, Nat.reduceEqDiff, Nat.reduceLT, Nat.reduceLeDiff, Nat.reduceSub, reduceIte, decide_false, decide_true, Bool.false_eq_true, List.map_cons, List.map_nil, List.sum_cons, List.sum_nil, true_and, and_true, true_or, or_true, false_or, or_false, false_and, and_false, true_implies, false_implies, implies_true, not_true_eq_false, not_false_eq_true, lg_cmp_ge, lg_cmp_le, lg_cmp_gt, lg_cmp_lt, lg_cmp_eq, mv_exL, qL358, qL359, qL360, qL361, qL362, qL363, qL364, qL365, qL366, qL367, qL368, qL369, csL_47, kdF_0, v1, v2]
  refine ⟨p6, fun v h1 q6 => ?_⟩
  obtain ⟨⟨x, rfl⟩, p7, f7⟩ := f6 v h1 q6
  refine mv_go hX 11 ?_
  simp only [mv_wps, mv_exq, mv_exr, mv_exn, mv_xg, mv_xpi, mv_xpl, mv_xpr, mv_xc, mv_xc2, mv_xs, mv_9z, mv_cqs, mv_calls, mv_lgz, mv_stz, mv_kz, mv_cz, mv_fvs, mv_ats, mv_ics, mv_rz, mv_tz, mv_cns, mv_nfs, mv_fins, mv_det, mv_cc, mv_c0, Nat.reduceAdd, Nat.reduceEqDiff, Nat.reduceLT, Nat.reduceLeDiff, Nat.reduceSub, reduceIte, decide_false, decide_true, Bool.false_eq_true, List.map_cons, List.map_nil, List.sum_cons, List.sum_nil, true_and, and_true, true_or, or_true, false_or, or_false, false_and, and_false, true_implies, false_implies, implies_true, not_true_eq_false, not_false_eq_true, lg_cmp_ge, lg_cmp_le, lg_cmp_gt, lg_cmp_lt, lg_cmp_eq, mv_exL, qL372, qL373, qL374, qL375, qL376, qL377, qL378, qL379, qL380, qL381, qL382, qL383, csL_50, kdF_157, v1, v2]
  refine ⟨p7, fun v' h2 q7 => ?_⟩
  obtain ⟨rfl, z2⟩ := f7 v' h2 q7
  refine mv_go hX 0 ?_
  simp only [mv_wps, mv_exq, mv_exr, mv_exn, mv_xg, mv_xpi, mv_xpl, mv_xpr, mv_xc, mv_xc2, mv_xs, mv_9z, mv_cqs, mv_calls, mv_lgz, mv_stz, mv_kz, mv_cz, mv_fvs, mv_ats, mv_ics, mv_rz, mv_tz, mv_cns, mv_nfs, mv_fins, mv_det, mv_cc, mv_c0, Nat.reduceAdd, Nat.reduceEqDiff, Nat.reduceLT, Nat.reduceLeDiff, Nat.reduceSub, reduceIte, decide_false, decide_true, Bool.false_eq_true, List.map_cons, List.map_nil, List.sum_cons, List.sum_nil, true_and, and_true, true_or, or_true, false_or, or_false, false_and, and_false, true_implies, false_implies, implies_true, not_true_eq_false, not_false_eq_true, lg_cmp_ge, lg_cmp_le, lg_cmp_gt, lg_cmp_lt, lg_cmp_eq, qL386]
  exact go h2 z2
set_option maxRecDepth 100000 in
set_option maxHeartbeats 4000000 in
theorem lc_row {L : Nat} {xs : Nat → Int32} {X : mv_K} (hX : lwX L xs X) {n : Nat} {h : mv_M} (hn : n + 7 ≤ L) (hL : L ≤ 3584) (z : iv kdF h h) (go : ∀ h', iv kdF h' h' → X 808 (lwL n) [] h') : X 391 (lwL n) [] h := by
  have v1 : vp_in (nI n + 1) L := vpL (j := 1) hn hL (by omega)
  have v2 : vp_in (nI n + 2) L := vpL (j := 2) hn hL (by omega)
  unfold lwX at hX
  obtain ⟨p6, f6⟩ := lw_row (xs (nI n + 1).toNatClampNeg) (xs (nI n + 2).toNatClampNeg) h z
  refine mv_go hX 11 ?_
  simp only [mv_wps, mv_exq, mv_exr, mv_exn, mv_xg, mv_xpi, mv_xpl, mv_xpr, mv_xc, mv_xc2, mv_xs, mv_9z, mv_cqs, mv_calls, mv_lgz, mv_stz, mv_kz, mv_cz, mv_fvs, mv_ats, mv_ics, mv_rz, mv_tz, mv_cns, mv_nfs, mv_fins, mv_det, mv_cc, mv_c0, Nat.reduceAdd, Nat.reduceEqDiff, Nat.reduceLT, Nat.reduceLeDiff, Nat.reduceSub, reduceIte, decide_false, decide_true, Bool.false_eq_true, List.map_cons, List.map_nil, List.sum_cons, List.sum_nil, true_and, and_true, true_or, or_true, false_or, or_false, false_and, and_false, true_implies, false_implies, implies_true, not_true_eq_false, not_false_eq_true, lg_cmp_ge, lg_cmp_le, lg_cmp_gt, lg_cmp_lt, lg_cmp_eq, mv_exL, qL391, qL392, qL393, qL394, qL395, qL396, qL397, qL398, qL399, qL400, qL401, qL402, csL_51, kdF_0, v1, v2]
  refine ⟨p6, fun v h1 q6 => ?_⟩
  obtain ⟨⟨x, rfl⟩, p7, f7⟩ := f6 v h1 q6
  refine mv_go hX 11 ?_
  simp only [mv_wps, mv_exq, mv_exr, mv_exn, mv_xg, mv_xpi, mv_xpl, mv_xpr, mv_xc, mv_xc2, mv_xs, mv_9z, mv_cqs, mv_calls, mv_lgz, mv_stz, mv_kz, mv_cz, mv_fvs, mv_ats, mv_ics, mv_rz, mv_tz, mv_cns, mv_nfs, mv_fins, mv_det, mv_cc, mv_c0, Nat.reduceAdd, Nat.reduceEqDiff, Nat.reduceLT, Nat.reduceLeDiff, Nat.reduceSub, reduceIte, decide_false, decide_true, Bool.false_eq_true, List.map_cons, List.map_nil, List.sum_cons, List.sum_nil, true_and, and_true, true_or, or_true, false_or, or_false, false_and, and_false, true_implies, false_implies, implies_true, not_true_eq_false, not_false_eq_true, lg_cmp_ge, lg_cmp_le, lg_cmp_gt, lg_cmp_lt, lg_cmp_eq, mv_exL, qL405, qL406, qL407, qL408, qL409, qL410, qL411, qL412, qL413, qL414, qL415, qL416, csL_54, kdF_157, v1, v2]
  refine ⟨p7, fun v' h2 q7 => ?_⟩
  obtain ⟨rfl, z2⟩ := f7 v' h2 q7
  refine mv_go hX 0 ?_
  simp only [mv_wps, mv_exq, mv_exr, mv_exn, mv_xg, mv_xpi, mv_xpl, mv_xpr, mv_xc, mv_xc2, mv_xs, mv_9z, mv_cqs, mv_calls, mv_lgz, mv_stz, mv_kz, mv_cz, mv_fvs, mv_ats, mv_ics, mv_rz, mv_tz, mv_cns, mv_nfs, mv_fins, mv_det, mv_cc, mv_c0, Nat.reduceAdd, Nat.reduceEqDiff, Nat.reduceLT, Nat.reduceLeDiff, Nat.reduceSub, reduceIte, decide_false, decide_true, Bool.false_eq_true, List.map_cons, List.map_nil, List.sum_cons, List.sum_nil, true_and, and_true, true_or, or_true, false_or, or_false, false_and, and_false, true_implies, false_implies, implies_true, not_true_eq_false, not_false_eq_true, lg_cmp_ge, lg_cmp_le, lg_cmp_gt, lg_cmp_lt, lg_cmp_eq, qL419]
  exact go h2 z2
set_option maxRecDepth 100000 in
set_option maxHeartbeats 4000000 in
theorem lc_size {L : Nat} {xs : Nat → Int32} {X : mv_K} (hX : lwX L xs X) {n : Nat} {h : mv_M} (hn : n + 7 ≤ L) (hL : L ≤ 3584) (z : iv kdF h h) (go : ∀ h', iv kdF h' h' → X 808 (lwL n) [] h') : X 424 (lwL n) [] h := by
  have v1 : vp_in (nI n + 1) L := vpL (j := 1) hn hL (by omega)
  unfold lwX at hX
  obtain ⟨p6, f6⟩ := lw_size (xs (nI n + 1).toNatClampNeg) h z
  refine mv_go hX 6 ?_
  simp only [mv_wps, mv_exq, mv_exr, mv_exn, mv_xg, mv_xpi, mv_xpl, mv_xpr, mv_xc, mv_xc2, mv_xs, mv_9z, mv_cqs, mv_calls, mv_lgz, mv_stz, mv_kz, mv_cz, mv_fvs, mv_ats, mv_ics, mv_rz, mv_tz, mv_cns, mv_nfs, mv_fins, mv_det, mv_cc, mv_c0, Nat.reduceAdd, Nat.reduceEqDiff, Nat.reduceLT, Nat.reduceLeDiff, Nat.reduceSub, reduceIte, decide_false, decide_true, Bool.false_eq_true, List.map_cons, List.map_nil, List.sum_cons, List.sum_nil, true_and, and_true, true_or, or_true, false_or, or_false, false_and, and_false, true_implies, false_implies, implies_true, not_true_eq_false, not_false_eq_true, lg_cmp_ge, lg_cmp_le, lg_cmp_gt, lg_cmp_lt, lg_cmp_eq, mv_exL, qL424, qL425, qL426, qL427, qL428, qL429, qL430, csL_55, kdF_0, v1]
  refine ⟨p6, fun v h1 q6 => ?_⟩
  obtain ⟨⟨x, rfl⟩, p7, f7⟩ := f6 v h1 q6
  refine mv_go hX 6 ?_
  simp only [mv_wps, mv_exq, mv_exr, mv_exn, mv_xg, mv_xpi, mv_xpl, mv_xpr, mv_xc, mv_xc2, mv_xs, mv_9z, mv_cqs, mv_calls, mv_lgz, mv_stz, mv_kz, mv_cz, mv_fvs, mv_ats, mv_ics, mv_rz, mv_tz, mv_cns, mv_nfs, mv_fins, mv_det, mv_cc, mv_c0, Nat.reduceAdd, Nat.reduceEqDiff, Nat.reduceLT, Nat.reduceLeDiff, Nat.reduceSub, reduceIte, decide_false, decide_true, Bool.false_eq_true, List.map_cons, List.map_nil, List.sum_cons, List.sum_nil, true_and, and_true, true_or, or_true, false_or, or_false, false_and, and_false, true_implies, false_implies, implies_true, not_true_eq_false, not_false_eq_true, lg_cmp_ge, lg_cmp_le, lg_cmp_gt, lg_cmp_lt, lg_cmp_eq, mv_exL, qL433, qL434, qL435, qL436, qL437, qL438, qL439, csL_59, kdF_157, v1]
  refine ⟨p7, fun v' h2 q7 => ?_⟩
  obtain ⟨rfl, z2⟩ := f7 v' h2 q7
  refine mv_go hX 1 ?_
  simp only [mv_wps, mv_exq, mv_exr, mv_exn, mv_xg, mv_xpi, mv_xpl, mv_xpr, mv_xc, mv_xc2, mv_xs, mv_9z, mv_cqs, mv_calls, mv_lgz, mv_stz, mv_kz, mv_cz, mv_fvs, mv_ats, mv_ics, mv_rz, mv_tz, mv_cns, mv_nfs, mv_fins, mv_det, mv_cc, mv_c0, Nat.reduceAdd, Nat.reduceEqDiff, Nat.reduceLT, Nat.reduceLeDiff, Nat.reduceSub, reduceIte, decide_false, decide_true, Bool.false_eq_true, List.map_cons, List.map_nil, List.sum_cons, List.sum_nil, true_and, and_true, true_or, or_true, false_or, or_false, false_and, and_false, true_implies, false_implies, implies_true, not_true_eq_false, not_false_eq_true, lg_cmp_ge, lg_cmp_le, lg_cmp_gt, lg_cmp_lt, lg_cmp_eq, qL442, qL443]
  exact go h2 z2
set_option maxRecDepth 100000 in
set_option maxHeartbeats 4000000 in
theorem lc_reduce {L : Nat} {xs : Nat → Int32} {X : mv_K} (hX : lwX L xs X) {n : Nat} {h : mv_M} (hn : n + 7 ≤ L) (hL : L ≤ 3584) (z : iv kdF h h) (go : ∀ h', iv kdF h' h' → X 808 (lwL n) [] h') : X 448 (lwL n) [] h := by
  have v1 : vp_in (nI n + 1) L := vpL (j := 1) hn hL (by omega)
  unfold lwX at hX
  obtain ⟨p6, f6⟩ := lw_reduce (xs (nI n + 1).toNatClampNeg) h z
  refine mv_go hX 6 ?_
  simp only [mv_wps, mv_exq, mv_exr, mv_exn, mv_xg, mv_xpi, mv_xpl, mv_xpr, mv_xc, mv_xc2, mv_xs, mv_9z, mv_cqs, mv_calls, mv_lgz, mv_stz, mv_kz, mv_cz, mv_fvs, mv_ats, mv_ics, mv_rz, mv_tz, mv_cns, mv_nfs, mv_fins, mv_det, mv_cc, mv_c0, Nat.reduceAdd, Nat.reduceEqDiff, Nat.reduceLT, Nat.reduceLeDiff, Nat.reduceSub, reduceIte, decide_false, decide_true, Bool.false_eq_true, List.map_cons, List.map_nil, List.sum_cons, List.sum_nil, true_and, and_true, true_or, or_true, false_or, or_false, false_and, and_false, true_implies, false_implies, implies_true, not_true_eq_false, not_false_eq_true, lg_cmp_ge, lg_cmp_le, lg_cmp_gt, lg_cmp_lt, lg_cmp_eq, mv_exL, qL448, qL449, qL450, qL451, qL452, qL453, qL454, csL_60, kdF_0, v1]
  refine ⟨p6, fun v h1 q6 => ?_⟩
  obtain ⟨⟨x, rfl⟩, p7, f7⟩ := f6 v h1 q6
  refine mv_go hX 6 ?_
  simp only [mv_wps, mv_exq, mv_exr, mv_exn, mv_xg, mv_xpi, mv_xpl, mv_xpr, mv_xc, mv_xc2, mv_xs, mv_9z, mv_cqs, mv_calls, mv_lgz, mv_stz, mv_kz, mv_cz, mv_fvs, mv_ats, mv_ics, mv_rz, mv_tz, mv_cns, mv_nfs, mv_fins, mv_det, mv_cc, mv_c0, Nat.reduceAdd, Nat.reduceEqDiff, Nat.reduceLT, Nat.reduceLeDiff, Nat.reduceSub, reduceIte, decide_false, decide_true, Bool.false_eq_true, List.map_cons, List.map_nil, List.sum_cons, List.sum_nil, true_and, and_true, true_or, or_true, false_or, or_false, false_and, and_false, true_implies, false_implies, implies_true, not_true_eq_false, not_false_eq_true, lg_cmp_ge, lg_cmp_le, lg_cmp_gt, lg_cmp_lt, lg_cmp_eq, mv_exL, qL457, qL458, qL459, qL460, qL461, qL462, qL463, csL_64, kdF_157, v1]
  refine ⟨p7, fun v' h2 q7 => ?_⟩
  obtain ⟨rfl, z2⟩ := f7 v' h2 q7
  refine mv_go hX 0 ?_
  simp only [mv_wps, mv_exq, mv_exr, mv_exn, mv_xg, mv_xpi, mv_xpl, mv_xpr, mv_xc, mv_xc2, mv_xs, mv_9z, mv_cqs, mv_calls, mv_lgz, mv_stz, mv_kz, mv_cz, mv_fvs, mv_ats, mv_ics, mv_rz, mv_tz, mv_cns, mv_nfs, mv_fins, mv_det, mv_cc, mv_c0, Nat.reduceAdd, Nat.reduceEqDiff, Nat.reduceLT, Nat.reduceLeDiff, Nat.reduceSub, reduceIte, decide_false, decide_true, Bool.false_eq_true, List.map_cons, List.map_nil, List.sum_cons, List.sum_nil, true_and, and_true, true_or, or_true, false_or, or_false, false_and, and_false, true_implies, false_implies, implies_true, not_true_eq_false, not_false_eq_true, lg_cmp_ge, lg_cmp_le, lg_cmp_gt, lg_cmp_lt, lg_cmp_eq, qL466]
  exact go h2 z2
set_option maxRecDepth 100000 in
set_option maxHeartbeats 4000000 in
theorem lc_same {L : Nat} {xs : Nat → Int32} {X : mv_K} (hX : lwX L xs X) {n : Nat} {h : mv_M} (hn : n + 7 ≤ L) (hL : L ≤ 3584) (z : iv kdF h h) (go : ∀ h', iv kdF h' h' → X 808 (lwL n) [] h') : X 471 (lwL n) [] h := by
  have v1 : vp_in (nI n + 1) L := vpL (j := 1) hn hL (by omega)
  have v2 : vp_in (nI n + 2) L := vpL (j := 2) hn hL (by omega)
  unfold lwX at hX
  obtain ⟨p6, f6⟩ := lw_same (xs (nI n + 1).toNatClampNeg) (xs (nI n + 2).toNatClampNeg) h z
  refine mv_go hX 11 ?_
  simp only [mv_wps, mv_exq, mv_exr, mv_exn, mv_xg, mv_xpi, mv_xpl, mv_xpr, mv_xc, mv_xc2, mv_xs, mv_9z, mv_cqs, mv_calls, mv_lgz, mv_stz, mv_kz, mv_cz, mv_fvs, mv_ats, mv_ics, mv_rz, mv_tz, mv_cns, mv_nfs, mv_fins, mv_det, mv_cc, mv_c0, Nat.reduceAdd, Nat.reduceEqDiff, Nat.reduceLT, Nat.reduceLeDiff, Nat.reduceSub, reduceIte, decide_false, decide_true, Bool.false_eq_true, List.map_cons, List.map_nil, List.sum_cons, List.sum_nil, true_and, and_true, true_or, or_true, false_or, or_false, false_and, and_false, true_implies, false_implies, implies_true, not_true_eq_false, not_false_eq_true, lg_cmp_ge, lg_cmp_le, lg_cmp_gt, lg_cmp_lt, lg_cmp_eq, mv_exL, qL471, qL472, qL473, qL474, qL475, qL476, qL477, qL478, qL479, qL480, qL481, qL482, csL_65, kdF_0, v1, v2]
  refine ⟨p6, fun v h1 q6 => ?_⟩
  obtain ⟨⟨x, rfl⟩, p7, f7⟩ := f6 v h1 q6
  refine mv_go hX 11 ?_
  simp only [mv_wps, mv_exq, mv_exr, mv_exn, mv_xg, mv_xpi, mv_xpl, mv_xpr, mv_xc, mv_xc2, mv_xs, mv_9z, mv_cqs, mv_calls, mv_lgz, mv_stz, mv_kz, mv_cz, mv_fvs, mv_ats, mv_ics, mv_rz, mv_tz, mv_cns, mv_nfs, mv_fins, mv_det, mv_cc, mv_c0, Nat.reduceAdd, Nat.reduceEqDiff, Nat.reduceLT, Nat.reduceLeDiff, Nat.reduceSub, reduceIte, decide_false, decide_true, Bool.false_eq_true, List.map_cons, List.map_nil, List.sum_cons, List.sum_nil, true_and, and_true, true_or, or_true, false_or, or_false, false_and, and_false, true_implies, false_implies, implies_true, not_true_eq_false, not_false_eq_true, lg_cmp_ge, lg_cmp_le, lg_cmp_gt, lg_cmp_lt, lg_cmp_eq, mv_exL, qL485, qL486, qL487, qL488, qL489, qL490, qL491, qL492, qL493, qL494, qL495, qL496, csL_68, kdF_157, v1, v2]
  refine ⟨p7, fun v' h2 q7 => ?_⟩
  obtain ⟨rfl, z2⟩ := f7 v' h2 q7
  refine mv_go hX 0 ?_
  simp only [mv_wps, mv_exq, mv_exr, mv_exn, mv_xg, mv_xpi, mv_xpl, mv_xpr, mv_xc, mv_xc2, mv_xs, mv_9z, mv_cqs, mv_calls, mv_lgz, mv_stz, mv_kz, mv_cz, mv_fvs, mv_ats, mv_ics, mv_rz, mv_tz, mv_cns, mv_nfs, mv_fins, mv_det, mv_cc, mv_c0, Nat.reduceAdd, Nat.reduceEqDiff, Nat.reduceLT, Nat.reduceLeDiff, Nat.reduceSub, reduceIte, decide_false, decide_true, Bool.false_eq_true, List.map_cons, List.map_nil, List.sum_cons, List.sum_nil, true_and, and_true, true_or, or_true, false_or, or_false, false_and, and_false, true_implies, false_implies, implies_true, not_true_eq_false, not_false_eq_true, lg_cmp_ge, lg_cmp_le, lg_cmp_gt, lg_cmp_lt, lg_cmp_eq, qL499]
  exact go h2 z2
set_option maxRecDepth 100000 in
set_option maxHeartbeats 4000000 in
theorem lc_way {L : Nat} {xs : Nat → Int32} {X : mv_K} (hX : lwX L xs X) {n : Nat} {h : mv_M} (hn : n + 7 ≤ L) (hL : L ≤ 3584) (z : iv kdF h h) (go : ∀ h', iv kdF h' h' → X 808 (lwL n) [] h') : X 504 (lwL n) [] h := by
  have v1 : vp_in (nI n + 1) L := vpL (j := 1) hn hL (by omega)
  have v2 : vp_in (nI n + 2) L := vpL (j := 2) hn hL (by omega)
  unfold lwX at hX
  obtain ⟨p6, f6⟩ := lw_way (xs (nI n + 1).toNatClampNeg) (xs (nI n + 2).toNatClampNeg) h z
  refine mv_go hX 11 ?_
  simp only [mv_wps, mv_exq, mv_exr, mv_exn, mv_xg, mv_xpi, mv_xpl, mv_xpr, mv_xc, mv_xc2, mv_xs, mv_9z, mv_cqs, mv_calls, mv_lgz, mv_stz, mv_kz, mv_cz, mv_fvs, mv_ats, mv_ics, mv_rz, mv_tz, mv_cns, mv_nfs, mv_fins, mv_det, mv_cc, mv_c0, Nat.reduceAdd, Nat.reduceEqDiff, Nat.reduceLT, Nat.reduceLeDiff, Nat.reduceSub, reduceIte, decide_false, decide_true, Bool.false_eq_true, List.map_cons, List.map_nil, List.sum_cons, List.sum_nil, true_and, and_true, true_or, or_true, false_or, or_false, false_and, and_false, true_implies, false_implies, implies_true, not_true_eq_false, not_false_eq_true, lg_cmp_ge, lg_cmp_le, lg_cmp_gt, lg_cmp_lt, lg_cmp_eq, mv_exL, qL504, qL505, qL506, qL507, qL508, qL509, qL510, qL511, qL512, qL513, qL514, qL515, csL_69, kdF_0, v1, v2]
  refine ⟨p6, fun v h1 q6 => ?_⟩
  obtain ⟨⟨x, rfl⟩, p7, f7⟩ := f6 v h1 q6
  refine mv_go hX 11 ?_
  simp only [mv_wps, mv_exq, mv_exr, mv_exn, mv_xg, mv_xpi, mv_xpl, mv_xpr, mv_xc, mv_xc2, mv_xs, mv_9z, mv_cqs, mv_calls, mv_lgz, mv_stz, mv_kz, mv_cz, mv_fvs, mv_ats, mv_ics, mv_rz, mv_tz, mv_cns, mv_nfs, mv_fins, mv_det, mv_cc, mv_c0, Nat.reduceAdd, Nat.reduceEqDiff, Nat.reduceLT, Nat.reduceLeDiff, Nat.reduceSub, reduceIte, decide_false, decide_true, Bool.false_eq_true, List.map_cons, List.map_nil, List.sum_cons, List.sum_nil, true_and, and_true, true_or, or_true, false_or, or_false, false_and, and_false, true_implies, false_implies, implies_true, not_true_eq_false, not_false_eq_true, lg_cmp_ge, lg_cmp_le, lg_cmp_gt, lg_cmp_lt, lg_cmp_eq, mv_exL, qL518, qL519, qL520, qL521, qL522, qL523, qL524, qL525, qL526, qL527, qL528, qL529, csL_72, kdF_157, v1, v2]
  refine ⟨p7, fun v' h2 q7 => ?_⟩
  obtain ⟨rfl, z2⟩ := f7 v' h2 q7
  refine mv_go hX 0 ?_
  simp only [mv_wps, mv_exq, mv_exr, mv_exn, mv_xg, mv_xpi, mv_xpl, mv_xpr, mv_xc, mv_xc2, mv_xs, mv_9z, mv_cqs, mv_calls, mv_lgz, mv_stz, mv_kz, mv_cz, mv_fvs, mv_ats, mv_ics, mv_rz, mv_tz, mv_cns, mv_nfs, mv_fins, mv_det, mv_cc, mv_c0, Nat.reduceAdd, Nat.reduceEqDiff, Nat.reduceLT, Nat.reduceLeDiff, Nat.reduceSub, reduceIte, decide_false, decide_true, Bool.false_eq_true, List.map_cons, List.map_nil, List.sum_cons, List.sum_nil, true_and, and_true, true_or, or_true, false_or, or_false, false_and, and_false, true_implies, false_implies, implies_true, not_true_eq_false, not_false_eq_true, lg_cmp_ge, lg_cmp_le, lg_cmp_gt, lg_cmp_lt, lg_cmp_eq, qL532]
  exact go h2 z2
set_option maxRecDepth 100000 in
set_option maxHeartbeats 4000000 in
theorem lc_wayWorth {L : Nat} {xs : Nat → Int32} {X : mv_K} (hX : lwX L xs X) {n : Nat} {h : mv_M} (hn : n + 7 ≤ L) (hL : L ≤ 3584) (z : iv kdF h h) (go : ∀ h', iv kdF h' h' → X 808 (lwL n) [] h') : X 537 (lwL n) [] h := by
  unfold lwX at hX
  obtain ⟨p6, f6⟩ := lw_wayWorth  h z
  refine mv_go hX 1 ?_
  simp only [mv_wps, mv_exq, mv_exr, mv_exn, mv_xg, mv_xpi, mv_xpl, mv_xpr, mv_xc, mv_xc2, mv_xs, mv_9z, mv_cqs, mv_calls, mv_lgz, mv_stz, mv_kz, mv_cz, mv_fvs, mv_ats, mv_ics, mv_rz, mv_tz, mv_cns, mv_nfs, mv_fins, mv_det, mv_cc, mv_c0, Nat.reduceAdd, Nat.reduceEqDiff, Nat.reduceLT, Nat.reduceLeDiff, Nat.reduceSub, reduceIte, decide_false, decide_true, Bool.false_eq_true, List.map_cons, List.map_nil, List.sum_cons, List.sum_nil, true_and, and_true, true_or, or_true, false_or, or_false, false_and, and_false, true_implies, false_implies, implies_true, not_true_eq_false, not_false_eq_true, lg_cmp_ge, lg_cmp_le, lg_cmp_gt, lg_cmp_lt, lg_cmp_eq, mv_exL, qL537, qL538, csL_73, kdF_0]
  refine ⟨p6, fun v h1 q6 => ?_⟩
  obtain ⟨⟨x, rfl⟩, p7, f7⟩ := f6 v h1 q6
  refine mv_go hX 1 ?_
  simp only [mv_wps, mv_exq, mv_exr, mv_exn, mv_xg, mv_xpi, mv_xpl, mv_xpr, mv_xc, mv_xc2, mv_xs, mv_9z, mv_cqs, mv_calls, mv_lgz, mv_stz, mv_kz, mv_cz, mv_fvs, mv_ats, mv_ics, mv_rz, mv_tz, mv_cns, mv_nfs, mv_fins, mv_det, mv_cc, mv_c0, Nat.reduceAdd, Nat.reduceEqDiff, Nat.reduceLT, Nat.reduceLeDiff, Nat.reduceSub, reduceIte, decide_false, decide_true, Bool.false_eq_true, List.map_cons, List.map_nil, List.sum_cons, List.sum_nil, true_and, and_true, true_or, or_true, false_or, or_false, false_and, and_false, true_implies, false_implies, implies_true, not_true_eq_false, not_false_eq_true, lg_cmp_ge, lg_cmp_le, lg_cmp_gt, lg_cmp_lt, lg_cmp_eq, mv_exL, qL541, qL542, csL_77, kdF_157]
  refine ⟨p7, fun v' h2 q7 => ?_⟩
  obtain ⟨rfl, z2⟩ := f7 v' h2 q7
  refine mv_go hX 1 ?_
  simp only [mv_wps, mv_exq, mv_exr, mv_exn, mv_xg, mv_xpi, mv_xpl, mv_xpr, mv_xc, mv_xc2, mv_xs, mv_9z, mv_cqs, mv_calls, mv_lgz, mv_stz, mv_kz, mv_cz, mv_fvs, mv_ats, mv_ics, mv_rz, mv_tz, mv_cns, mv_nfs, mv_fins, mv_det, mv_cc, mv_c0, Nat.reduceAdd, Nat.reduceEqDiff, Nat.reduceLT, Nat.reduceLeDiff, Nat.reduceSub, reduceIte, decide_false, decide_true, Bool.false_eq_true, List.map_cons, List.map_nil, List.sum_cons, List.sum_nil, true_and, and_true, true_or, or_true, false_or, or_false, false_and, and_false, true_implies, false_implies, implies_true, not_true_eq_false, not_false_eq_true, lg_cmp_ge, lg_cmp_le, lg_cmp_gt, lg_cmp_lt, lg_cmp_eq, qL545, qL546]
  exact go h2 z2
set_option maxRecDepth 100000 in
set_option maxHeartbeats 4000000 in
theorem lc_dual {L : Nat} {xs : Nat → Int32} {X : mv_K} (hX : lwX L xs X) {n : Nat} {h : mv_M} (hn : n + 7 ≤ L) (hL : L ≤ 3584) (z : iv kdF h h) (go : ∀ h', iv kdF h' h' → X 808 (lwL n) [] h') : X 551 (lwL n) [] h := by
  have v1 : vp_in (nI n + 1) L := vpL (j := 1) hn hL (by omega)
  unfold lwX at hX
  obtain ⟨p6, f6⟩ := lw_dual (xs (nI n + 1).toNatClampNeg) h z
  refine mv_go hX 6 ?_
  simp only [mv_wps, mv_exq, mv_exr, mv_exn, mv_xg, mv_xpi, mv_xpl, mv_xpr, mv_xc, mv_xc2, mv_xs, mv_9z, mv_cqs, mv_calls, mv_lgz, mv_stz, mv_kz, mv_cz, mv_fvs, mv_ats, mv_ics, mv_rz, mv_tz, mv_cns, mv_nfs, mv_fins, mv_det, mv_cc, mv_c0, Nat.reduceAdd, Nat.reduceEqDiff, Nat.reduceLT, Nat.reduceLeDiff, Nat.reduceSub, reduceIte, decide_false, decide_true, Bool.false_eq_true, List.map_cons, List.map_nil, List.sum_cons, List.sum_nil, true_and, and_true, true_or, or_true, false_or, or_false, false_and, and_false, true_implies, false_implies, implies_true, not_true_eq_false, not_false_eq_true, lg_cmp_ge, lg_cmp_le, lg_cmp_gt, lg_cmp_lt, lg_cmp_eq, mv_exL, qL551, qL552, qL553, qL554, qL555, qL556, qL557, csL_78, kdF_0, v1]
  refine ⟨p6, fun v h1 q6 => ?_⟩
  obtain ⟨⟨x, rfl⟩, p7, f7⟩ := f6 v h1 q6
  refine mv_go hX 6 ?_
  simp only [mv_wps, mv_exq, mv_exr, mv_exn, mv_xg, mv_xpi, mv_xpl, mv_xpr, mv_xc, mv_xc2, mv_xs, mv_9z, mv_cqs, mv_calls, mv_lgz, mv_stz, mv_kz, mv_cz, mv_fvs, mv_ats, mv_ics, mv_rz, mv_tz, mv_cns, mv_nfs, mv_fins, mv_det, mv_cc, mv_c0, Nat.reduceAdd, Nat.reduceEqDiff, Nat.reduceLT, Nat.reduceLeDiff, Nat.reduceSub, reduceIte, decide_false, decide_true, Bool.false_eq_true, List.map_cons, List.map_nil, List.sum_cons, List.sum_nil, true_and, and_true, true_or, or_true, false_or, or_false, false_and, and_false, true_implies, false_implies, implies_true, not_true_eq_false, not_false_eq_true, lg_cmp_ge, lg_cmp_le, lg_cmp_gt, lg_cmp_lt, lg_cmp_eq, mv_exL, qL560, qL561, qL562, qL563, qL564, qL565, qL566, csL_81, kdF_157, v1]
  refine ⟨p7, fun v' h2 q7 => ?_⟩
  obtain ⟨rfl, z2⟩ := f7 v' h2 q7
  refine mv_go hX 0 ?_
  simp only [mv_wps, mv_exq, mv_exr, mv_exn, mv_xg, mv_xpi, mv_xpl, mv_xpr, mv_xc, mv_xc2, mv_xs, mv_9z, mv_cqs, mv_calls, mv_lgz, mv_stz, mv_kz, mv_cz, mv_fvs, mv_ats, mv_ics, mv_rz, mv_tz, mv_cns, mv_nfs, mv_fins, mv_det, mv_cc, mv_c0, Nat.reduceAdd, Nat.reduceEqDiff, Nat.reduceLT, Nat.reduceLeDiff, Nat.reduceSub, reduceIte, decide_false, decide_true, Bool.false_eq_true, List.map_cons, List.map_nil, List.sum_cons, List.sum_nil, true_and, and_true, true_or, or_true, false_or, or_false, false_and, and_false, true_implies, false_implies, implies_true, not_true_eq_false, not_false_eq_true, lg_cmp_ge, lg_cmp_le, lg_cmp_gt, lg_cmp_lt, lg_cmp_eq, qL569]
  exact go h2 z2
set_option maxRecDepth 100000 in
set_option maxHeartbeats 4000000 in
theorem lc_sum {L : Nat} {xs : Nat → Int32} {X : mv_K} (hX : lwX L xs X) {n : Nat} {h : mv_M} (hn : n + 7 ≤ L) (hL : L ≤ 3584) (z : iv kdF h h) (go : ∀ h', iv kdF h' h' → X 808 (lwL n) [] h') : X 574 (lwL n) [] h := by
  have v1 : vp_in (nI n + 1) L := vpL (j := 1) hn hL (by omega)
  have v2 : vp_in (nI n + 2) L := vpL (j := 2) hn hL (by omega)
  unfold lwX at hX
  obtain ⟨p6, f6⟩ := lw_sum (xs (nI n + 1).toNatClampNeg) (xs (nI n + 2).toNatClampNeg) h z
  refine mv_go hX 11 ?_
  simp only [mv_wps, mv_exq, mv_exr, mv_exn, mv_xg, mv_xpi, mv_xpl, mv_xpr, mv_xc, mv_xc2, mv_xs, mv_9z, mv_cqs, mv_calls, mv_lgz, mv_stz, mv_kz, mv_cz, mv_fvs, mv_ats, mv_ics, mv_rz, mv_tz, mv_cns, mv_nfs, mv_fins, mv_det, mv_cc, mv_c0, Nat.reduceAdd, Nat.reduceEqDiff, Nat.reduceLT, Nat.reduceLeDiff, Nat.reduceSub, reduceIte, decide_false, decide_true, Bool.false_eq_true, List.map_cons, List.map_nil, List.sum_cons, List.sum_nil, true_and, and_true, true_or, or_true, false_or, or_false, false_and, and_false, true_implies, false_implies, implies_true, not_true_eq_false, not_false_eq_true, lg_cmp_ge, lg_cmp_le, lg_cmp_gt, lg_cmp_lt, lg_cmp_eq, mv_exL, qL574, qL575, qL576, qL577, qL578, qL579, qL580, qL581, qL582, qL583, qL584, qL585, csL_82, kdF_0, v1, v2]
  refine ⟨p6, fun v h1 q6 => ?_⟩
  obtain ⟨⟨x, rfl⟩, p7, f7⟩ := f6 v h1 q6
  refine mv_go hX 11 ?_
  simp only [mv_wps, mv_exq, mv_exr, mv_exn, mv_xg, mv_xpi, mv_xpl, mv_xpr, mv_xc, mv_xc2, mv_xs, mv_9z, mv_cqs, mv_calls, mv_lgz, mv_stz, mv_kz, mv_cz, mv_fvs, mv_ats, mv_ics, mv_rz, mv_tz, mv_cns, mv_nfs, mv_fins, mv_det, mv_cc, mv_c0, Nat.reduceAdd, Nat.reduceEqDiff, Nat.reduceLT, Nat.reduceLeDiff, Nat.reduceSub, reduceIte, decide_false, decide_true, Bool.false_eq_true, List.map_cons, List.map_nil, List.sum_cons, List.sum_nil, true_and, and_true, true_or, or_true, false_or, or_false, false_and, and_false, true_implies, false_implies, implies_true, not_true_eq_false, not_false_eq_true, lg_cmp_ge, lg_cmp_le, lg_cmp_gt, lg_cmp_lt, lg_cmp_eq, mv_exL, qL588, qL589, qL590, qL591, qL592, qL593, qL594, qL595, qL596, qL597, qL598, qL599, csL_85, kdF_157, v1, v2]
  refine ⟨p7, fun v' h2 q7 => ?_⟩
  obtain ⟨rfl, z2⟩ := f7 v' h2 q7
  refine mv_go hX 0 ?_
  simp only [mv_wps, mv_exq, mv_exr, mv_exn, mv_xg, mv_xpi, mv_xpl, mv_xpr, mv_xc, mv_xc2, mv_xs, mv_9z, mv_cqs, mv_calls, mv_lgz, mv_stz, mv_kz, mv_cz, mv_fvs, mv_ats, mv_ics, mv_rz, mv_tz, mv_cns, mv_nfs, mv_fins, mv_det, mv_cc, mv_c0, Nat.reduceAdd, Nat.reduceEqDiff, Nat.reduceLT, Nat.reduceLeDiff, Nat.reduceSub, reduceIte, decide_false, decide_true, Bool.false_eq_true, List.map_cons, List.map_nil, List.sum_cons, List.sum_nil, true_and, and_true, true_or, or_true, false_or, or_false, false_and, and_false, true_implies, false_implies, implies_true, not_true_eq_false, not_false_eq_true, lg_cmp_ge, lg_cmp_le, lg_cmp_gt, lg_cmp_lt, lg_cmp_eq, qL602]
  exact go h2 z2
set_option maxRecDepth 100000 in
set_option maxHeartbeats 4000000 in
theorem lc_scale {L : Nat} {xs : Nat → Int32} {X : mv_K} (hX : lwX L xs X) {n : Nat} {h : mv_M} (hn : n + 7 ≤ L) (hL : L ≤ 3584) (z : iv kdF h h) (go : ∀ h', iv kdF h' h' → X 808 (lwL n) [] h') : X 607 (lwL n) [] h := by
  have v1 : vp_in (nI n + 1) L := vpL (j := 1) hn hL (by omega)
  have v2 : vp_in (nI n + 2) L := vpL (j := 2) hn hL (by omega)
  unfold lwX at hX
  obtain ⟨p6, f6⟩ := lw_scale (xs (nI n + 1).toNatClampNeg) (xs (nI n + 2).toNatClampNeg) h z
  refine mv_go hX 11 ?_
  simp only [mv_wps, mv_exq, mv_exr, mv_exn, mv_xg, mv_xpi, mv_xpl, mv_xpr, mv_xc, mv_xc2, mv_xs, mv_9z, mv_cqs, mv_calls, mv_lgz, mv_stz, mv_kz, mv_cz, mv_fvs, mv_ats, mv_ics, mv_rz, mv_tz, mv_cns, mv_nfs, mv_fins, mv_det, mv_cc, mv_c0, Nat.reduceAdd, Nat.reduceEqDiff, Nat.reduceLT, Nat.reduceLeDiff, Nat.reduceSub, reduceIte, decide_false, decide_true, Bool.false_eq_true, List.map_cons, List.map_nil, List.sum_cons, List.sum_nil, true_and, and_true, true_or, or_true, false_or, or_false, false_and, and_false, true_implies, false_implies, implies_true, not_true_eq_false, not_false_eq_true, lg_cmp_ge, lg_cmp_le, lg_cmp_gt, lg_cmp_lt, lg_cmp_eq, mv_exL, qL607, qL608, qL609, qL610, qL611, qL612, qL613, qL614, qL615, qL616, qL617, qL618, csL_86, kdF_0, v1, v2]
  refine ⟨p6, fun v h1 q6 => ?_⟩
  obtain ⟨⟨x, rfl⟩, p7, f7⟩ := f6 v h1 q6
  refine mv_go hX 11 ?_
  simp only [mv_wps, mv_exq, mv_exr, mv_exn, mv_xg, mv_xpi, mv_xpl, mv_xpr, mv_xc, mv_xc2, mv_xs, mv_9z, mv_cqs, mv_calls, mv_lgz, mv_stz, mv_kz, mv_cz, mv_fvs, mv_ats, mv_ics, mv_rz, mv_tz, mv_cns, mv_nfs, mv_fins, mv_det, mv_cc, mv_c0, Nat.reduceAdd, Nat.reduceEqDiff, Nat.reduceLT, Nat.reduceLeDiff, Nat.reduceSub, reduceIte, decide_false, decide_true, Bool.false_eq_true, List.map_cons, List.map_nil, List.sum_cons, List.sum_nil, true_and, and_true, true_or, or_true, false_or, or_false, false_and, and_false, true_implies, false_implies, implies_true, not_true_eq_false, not_false_eq_true, lg_cmp_ge, lg_cmp_le, lg_cmp_gt, lg_cmp_lt, lg_cmp_eq, mv_exL, qL621, qL622, qL623, qL624, qL625, qL626, qL627, qL628, qL629, qL630, qL631, qL632, csL_89, kdF_157, v1, v2]
  refine ⟨p7, fun v' h2 q7 => ?_⟩
  obtain ⟨rfl, z2⟩ := f7 v' h2 q7
  refine mv_go hX 0 ?_
  simp only [mv_wps, mv_exq, mv_exr, mv_exn, mv_xg, mv_xpi, mv_xpl, mv_xpr, mv_xc, mv_xc2, mv_xs, mv_9z, mv_cqs, mv_calls, mv_lgz, mv_stz, mv_kz, mv_cz, mv_fvs, mv_ats, mv_ics, mv_rz, mv_tz, mv_cns, mv_nfs, mv_fins, mv_det, mv_cc, mv_c0, Nat.reduceAdd, Nat.reduceEqDiff, Nat.reduceLT, Nat.reduceLeDiff, Nat.reduceSub, reduceIte, decide_false, decide_true, Bool.false_eq_true, List.map_cons, List.map_nil, List.sum_cons, List.sum_nil, true_and, and_true, true_or, or_true, false_or, or_false, false_and, and_false, true_implies, false_implies, implies_true, not_true_eq_false, not_false_eq_true, lg_cmp_ge, lg_cmp_le, lg_cmp_gt, lg_cmp_lt, lg_cmp_eq, qL635]
  exact go h2 z2
set_option maxRecDepth 100000 in
set_option maxHeartbeats 4000000 in
theorem lc_within {L : Nat} {xs : Nat → Int32} {X : mv_K} (hX : lwX L xs X) {n : Nat} {h : mv_M} (hn : n + 7 ≤ L) (hL : L ≤ 3584) (z : iv kdF h h) (go : ∀ h', iv kdF h' h' → X 808 (lwL n) [] h') : X 640 (lwL n) [] h := by
  have v1 : vp_in (nI n + 1) L := vpL (j := 1) hn hL (by omega)
  unfold lwX at hX
  obtain ⟨p6, f6⟩ := lw_within (xs (nI n + 1).toNatClampNeg) h z
  refine mv_go hX 6 ?_
  simp only [mv_wps, mv_exq, mv_exr, mv_exn, mv_xg, mv_xpi, mv_xpl, mv_xpr, mv_xc, mv_xc2, mv_xs, mv_9z, mv_cqs, mv_calls, mv_lgz, mv_stz, mv_kz, mv_cz, mv_fvs, mv_ats, mv_ics, mv_rz, mv_tz, mv_cns, mv_nfs, mv_fins, mv_det, mv_cc, mv_c0, Nat.reduceAdd, Nat.reduceEqDiff, Nat.reduceLT, Nat.reduceLeDiff, Nat.reduceSub, reduceIte, decide_false, decide_true, Bool.false_eq_true, List.map_cons, List.map_nil, List.sum_cons, List.sum_nil, true_and, and_true, true_or, or_true, false_or, or_false, false_and, and_false, true_implies, false_implies, implies_true, not_true_eq_false, not_false_eq_true, lg_cmp_ge, lg_cmp_le, lg_cmp_gt, lg_cmp_lt, lg_cmp_eq, mv_exL, qL640, qL641, qL642, qL643, qL644, qL645, qL646, csL_90, kdF_0, v1]
  refine ⟨p6, fun v h1 q6 => ?_⟩
  obtain ⟨⟨x, rfl⟩, p7, f7⟩ := f6 v h1 q6
  refine mv_go hX 6 ?_
  simp only [mv_wps, mv_exq, mv_exr, mv_exn, mv_xg, mv_xpi, mv_xpl, mv_xpr, mv_xc, mv_xc2, mv_xs, mv_9z, mv_cqs, mv_calls, mv_lgz, mv_stz, mv_kz, mv_cz, mv_fvs, mv_ats, mv_ics, mv_rz, mv_tz, mv_cns, mv_nfs, mv_fins, mv_det, mv_cc, mv_c0, Nat.reduceAdd, Nat.reduceEqDiff, Nat.reduceLT, Nat.reduceLeDiff, Nat.reduceSub, reduceIte, decide_false, decide_true, Bool.false_eq_true, List.map_cons, List.map_nil, List.sum_cons, List.sum_nil, true_and, and_true, true_or, or_true, false_or, or_false, false_and, and_false, true_implies, false_implies, implies_true, not_true_eq_false, not_false_eq_true, lg_cmp_ge, lg_cmp_le, lg_cmp_gt, lg_cmp_lt, lg_cmp_eq, mv_exL, qL649, qL650, qL651, qL652, qL653, qL654, qL655, csL_93, kdF_157, v1]
  refine ⟨p7, fun v' h2 q7 => ?_⟩
  obtain ⟨rfl, z2⟩ := f7 v' h2 q7
  refine mv_go hX 0 ?_
  simp only [mv_wps, mv_exq, mv_exr, mv_exn, mv_xg, mv_xpi, mv_xpl, mv_xpr, mv_xc, mv_xc2, mv_xs, mv_9z, mv_cqs, mv_calls, mv_lgz, mv_stz, mv_kz, mv_cz, mv_fvs, mv_ats, mv_ics, mv_rz, mv_tz, mv_cns, mv_nfs, mv_fins, mv_det, mv_cc, mv_c0, Nat.reduceAdd, Nat.reduceEqDiff, Nat.reduceLT, Nat.reduceLeDiff, Nat.reduceSub, reduceIte, decide_false, decide_true, Bool.false_eq_true, List.map_cons, List.map_nil, List.sum_cons, List.sum_nil, true_and, and_true, true_or, or_true, false_or, or_false, false_and, and_false, true_implies, false_implies, implies_true, not_true_eq_false, not_false_eq_true, lg_cmp_ge, lg_cmp_le, lg_cmp_gt, lg_cmp_lt, lg_cmp_eq, qL658]
  exact go h2 z2
set_option maxRecDepth 100000 in
set_option maxHeartbeats 4000000 in
theorem lc_index {L : Nat} {xs : Nat → Int32} {X : mv_K} (hX : lwX L xs X) {n : Nat} {h : mv_M} (hn : n + 7 ≤ L) (hL : L ≤ 3584) (z : iv kdF h h) (go : ∀ h', iv kdF h' h' → X 808 (lwL n) [] h') : X 663 (lwL n) [] h := by
  unfold lwX at hX
  obtain ⟨p6, f6⟩ := lw_index  h z
  refine mv_go hX 1 ?_
  simp only [mv_wps, mv_exq, mv_exr, mv_exn, mv_xg, mv_xpi, mv_xpl, mv_xpr, mv_xc, mv_xc2, mv_xs, mv_9z, mv_cqs, mv_calls, mv_lgz, mv_stz, mv_kz, mv_cz, mv_fvs, mv_ats, mv_ics, mv_rz, mv_tz, mv_cns, mv_nfs, mv_fins, mv_det, mv_cc, mv_c0, Nat.reduceAdd, Nat.reduceEqDiff, Nat.reduceLT, Nat.reduceLeDiff, Nat.reduceSub, reduceIte, decide_false, decide_true, Bool.false_eq_true, List.map_cons, List.map_nil, List.sum_cons, List.sum_nil, true_and, and_true, true_or, or_true, false_or, or_false, false_and, and_false, true_implies, false_implies, implies_true, not_true_eq_false, not_false_eq_true, lg_cmp_ge, lg_cmp_le, lg_cmp_gt, lg_cmp_lt, lg_cmp_eq, mv_exL, qL663, qL664, csL_94, kdF_0]
  refine ⟨p6, fun v h1 q6 => ?_⟩
  obtain ⟨⟨x, rfl⟩, p7, f7⟩ := f6 v h1 q6
  refine mv_go hX 1 ?_
  simp only [mv_wps, mv_exq, mv_exr, mv_exn, mv_xg, mv_xpi, mv_xpl, mv_xpr, mv_xc, mv_xc2, mv_xs, mv_9z, mv_cqs, mv_calls, mv_lgz, mv_stz, mv_kz, mv_cz, mv_fvs, mv_ats, mv_ics, mv_rz, mv_tz, mv_cns, mv_nfs, mv_fins, mv_det, mv_cc, mv_c0, Nat.reduceAdd, Nat.reduceEqDiff, Nat.reduceLT, Nat.reduceLeDiff, Nat.reduceSub, reduceIte, decide_false, decide_true, Bool.false_eq_true, List.map_cons, List.map_nil, List.sum_cons, List.sum_nil, true_and, and_true, true_or, or_true, false_or, or_false, false_and, and_false, true_implies, false_implies, implies_true, not_true_eq_false, not_false_eq_true, lg_cmp_ge, lg_cmp_le, lg_cmp_gt, lg_cmp_lt, lg_cmp_eq, mv_exL, qL667, qL668, csL_97, kdF_157]
  refine ⟨p7, fun v' h2 q7 => ?_⟩
  obtain ⟨rfl, z2⟩ := f7 v' h2 q7
  refine mv_go hX 1 ?_
  simp only [mv_wps, mv_exq, mv_exr, mv_exn, mv_xg, mv_xpi, mv_xpl, mv_xpr, mv_xc, mv_xc2, mv_xs, mv_9z, mv_cqs, mv_calls, mv_lgz, mv_stz, mv_kz, mv_cz, mv_fvs, mv_ats, mv_ics, mv_rz, mv_tz, mv_cns, mv_nfs, mv_fins, mv_det, mv_cc, mv_c0, Nat.reduceAdd, Nat.reduceEqDiff, Nat.reduceLT, Nat.reduceLeDiff, Nat.reduceSub, reduceIte, decide_false, decide_true, Bool.false_eq_true, List.map_cons, List.map_nil, List.sum_cons, List.sum_nil, true_and, and_true, true_or, or_true, false_or, or_false, false_and, and_false, true_implies, false_implies, implies_true, not_true_eq_false, not_false_eq_true, lg_cmp_ge, lg_cmp_le, lg_cmp_gt, lg_cmp_lt, lg_cmp_eq, qL671, qL672]
  exact go h2 z2
set_option maxRecDepth 100000 in
set_option maxHeartbeats 4000000 in
theorem lc_denser {L : Nat} {xs : Nat → Int32} {X : mv_K} (hX : lwX L xs X) {n : Nat} {h : mv_M} (hn : n + 7 ≤ L) (hL : L ≤ 3584) (z : iv kdF h h) (go : ∀ h', iv kdF h' h' → X 808 (lwL n) [] h') : X 677 (lwL n) [] h := by
  have v1 : vp_in (nI n + 1) L := vpL (j := 1) hn hL (by omega)
  have v2 : vp_in (nI n + 2) L := vpL (j := 2) hn hL (by omega)
  unfold lwX at hX
  obtain ⟨p6, f6⟩ := lw_denser (xs (nI n + 1).toNatClampNeg) (xs (nI n + 2).toNatClampNeg) h z
  refine mv_go hX 11 ?_
  simp only [mv_wps, mv_exq, mv_exr, mv_exn, mv_xg, mv_xpi, mv_xpl, mv_xpr, mv_xc, mv_xc2, mv_xs, mv_9z, mv_cqs, mv_calls, mv_lgz, mv_stz, mv_kz, mv_cz, mv_fvs, mv_ats, mv_ics, mv_rz, mv_tz, mv_cns, mv_nfs, mv_fins, mv_det, mv_cc, mv_c0, Nat.reduceAdd, Nat.reduceEqDiff, Nat.reduceLT, Nat.reduceLeDiff, Nat.reduceSub, reduceIte, decide_false, decide_true, Bool.false_eq_true, List.map_cons, List.map_nil, List.sum_cons, List.sum_nil, true_and, and_true, true_or, or_true, false_or, or_false, false_and, and_false, true_implies, false_implies, implies_true, not_true_eq_false, not_false_eq_true, lg_cmp_ge, lg_cmp_le, lg_cmp_gt, lg_cmp_lt, lg_cmp_eq, mv_exL, qL677, qL678, qL679, qL680, qL681, qL682, qL683, qL684, qL685, qL686, qL687, qL688, csL_98, kdF_0, v1, v2]
  refine ⟨p6, fun v h1 q6 => ?_⟩
  obtain ⟨⟨x, rfl⟩, p7, f7⟩ := f6 v h1 q6
  refine mv_go hX 11 ?_
  simp only [mv_wps, mv_exq, mv_exr, mv_exn, mv_xg, mv_xpi, mv_xpl, mv_xpr, mv_xc, mv_xc2, mv_xs, mv_9z, mv_cqs, mv_calls, mv_lgz, mv_stz, mv_kz, mv_cz, mv_fvs, mv_ats, mv_ics, mv_rz, mv_tz, mv_cns, mv_nfs, mv_fins, mv_det, mv_cc, mv_c0, Nat.reduceAdd, Nat.reduceEqDiff, Nat.reduceLT, Nat.reduceLeDiff, Nat.reduceSub, reduceIte, decide_false, decide_true, Bool.false_eq_true, List.map_cons, List.map_nil, List.sum_cons, List.sum_nil, true_and, and_true, true_or, or_true, false_or, or_false, false_and, and_false, true_implies, false_implies, implies_true, not_true_eq_false, not_false_eq_true, lg_cmp_ge, lg_cmp_le, lg_cmp_gt, lg_cmp_lt, lg_cmp_eq, mv_exL, qL691, qL692, qL693, qL694, qL695, qL696, qL697, qL698, qL699, qL700, qL701, qL702, csL_101, kdF_157, v1, v2]
  refine ⟨p7, fun v' h2 q7 => ?_⟩
  obtain ⟨rfl, z2⟩ := f7 v' h2 q7
  refine mv_go hX 0 ?_
  simp only [mv_wps, mv_exq, mv_exr, mv_exn, mv_xg, mv_xpi, mv_xpl, mv_xpr, mv_xc, mv_xc2, mv_xs, mv_9z, mv_cqs, mv_calls, mv_lgz, mv_stz, mv_kz, mv_cz, mv_fvs, mv_ats, mv_ics, mv_rz, mv_tz, mv_cns, mv_nfs, mv_fins, mv_det, mv_cc, mv_c0, Nat.reduceAdd, Nat.reduceEqDiff, Nat.reduceLT, Nat.reduceLeDiff, Nat.reduceSub, reduceIte, decide_false, decide_true, Bool.false_eq_true, List.map_cons, List.map_nil, List.sum_cons, List.sum_nil, true_and, and_true, true_or, or_true, false_or, or_false, false_and, and_false, true_implies, false_implies, implies_true, not_true_eq_false, not_false_eq_true, lg_cmp_ge, lg_cmp_le, lg_cmp_gt, lg_cmp_lt, lg_cmp_eq, qL705]
  exact go h2 z2
set_option maxRecDepth 100000 in
set_option maxHeartbeats 4000000 in
theorem lc_nearest {L : Nat} {xs : Nat → Int32} {X : mv_K} (hX : lwX L xs X) {n : Nat} {h : mv_M} (hn : n + 7 ≤ L) (hL : L ≤ 3584) (z : iv kdF h h) (go : ∀ h', iv kdF h' h' → X 808 (lwL n) [] h') : X 710 (lwL n) [] h := by
  have v1 : vp_in (nI n + 1) L := vpL (j := 1) hn hL (by omega)
  have v2 : vp_in (nI n + 2) L := vpL (j := 2) hn hL (by omega)
  have v3 : vp_in (nI n + 3) L := vpL (j := 3) hn hL (by omega)
  have v4 : vp_in (nI n + 4) L := vpL (j := 4) hn hL (by omega)
  have v5 : vp_in (nI n + 5) L := vpL (j := 5) hn hL (by omega)
  have v6 : vp_in (nI n + 6) L := vpL (j := 6) hn hL (by omega)
  unfold lwX at hX
  obtain ⟨p6, f6⟩ := lw_nearest (xs (nI n + 1).toNatClampNeg) (xs (nI n + 2).toNatClampNeg) (xs (nI n + 3).toNatClampNeg) (xs (nI n + 4).toNatClampNeg) (xs (nI n + 5).toNatClampNeg) (xs (nI n + 6).toNatClampNeg) h z
  refine mv_go hX 31 ?_
  simp only [mv_wps, mv_exq, mv_exr, mv_exn, mv_xg, mv_xpi, mv_xpl, mv_xpr, mv_xc, mv_xc2, mv_xs, mv_9z, mv_cqs, mv_calls, mv_lgz, mv_stz, mv_kz, mv_cz, mv_fvs, mv_ats, mv_ics, mv_rz, mv_tz, mv_cns, mv_nfs, mv_fins, mv_det, mv_cc, mv_c0, Nat.reduceAdd, Nat.reduceEqDiff, Nat.reduceLT, Nat.reduceLeDiff, Nat.reduceSub, reduceIte, decide_false, decide_true, Bool.false_eq_true, List.map_cons, List.map_nil, List.sum_cons, List.sum_nil, true_and, and_true, true_or, or_true, false_or, or_false, false_and, and_false, true_implies, false_implies, implies_true, not_true_eq_false, not_false_eq_true, lg_cmp_ge, lg_cmp_le, lg_cmp_gt, lg_cmp_lt, lg_cmp_eq, mv_exL, qL710, qL711, qL712, qL713, qL714, qL715, qL716, qL717, qL718, qL719, qL720, qL721, qL722, qL723, qL724, qL725, qL726, qL727, qL728, qL729, qL730, qL731, qL732, qL733, qL734, qL735, qL736, qL737, qL738, qL740, qL741, qL742, csL_102, kdF_0, v1, v2, v3, v4, v5, v6]
  refine ⟨p6, fun v h1 q6 => ?_⟩
  obtain ⟨⟨x, rfl⟩, p7, f7⟩ := f6 v h1 q6
  refine mv_go hX 31 ?_
  simp only [mv_wps, mv_exq, mv_exr, mv_exn, mv_xg, mv_xpi, mv_xpl, mv_xpr, mv_xc, mv_xc2, mv_xs, mv_9z, mv_cqs, mv_calls, mv_lgz, mv_stz, mv_kz, mv_cz, mv_fvs, mv_ats, mv_ics, mv_rz, mv_tz, mv_cns, mv_nfs, mv_fins, mv_det, mv_cc, mv_c0, Nat.reduceAdd, Nat.reduceEqDiff, Nat.reduceLT, Nat.reduceLeDiff, Nat.reduceSub, reduceIte, decide_false, decide_true, Bool.false_eq_true, List.map_cons, List.map_nil, List.sum_cons, List.sum_nil, true_and, and_true, true_or, or_true, false_or, or_false, false_and, and_false, true_implies, false_implies, implies_true, not_true_eq_false, not_false_eq_true, lg_cmp_ge, lg_cmp_le, lg_cmp_gt, lg_cmp_lt, lg_cmp_eq, mv_exL, qL745, qL746, qL747, qL748, qL749, qL750, qL751, qL752, qL753, qL754, qL755, qL756, qL757, qL758, qL759, qL760, qL761, qL762, qL763, qL764, qL765, qL766, qL767, qL768, qL769, qL770, qL771, qL772, qL773, qL775, qL776, qL777, csL_106, kdF_157, v1, v2, v3, v4, v5, v6]
  refine ⟨p7, fun v' h2 q7 => ?_⟩
  obtain ⟨rfl, z2⟩ := f7 v' h2 q7
  refine mv_go hX 0 ?_
  simp only [mv_wps, mv_exq, mv_exr, mv_exn, mv_xg, mv_xpi, mv_xpl, mv_xpr, mv_xc, mv_xc2, mv_xs, mv_9z, mv_cqs, mv_calls, mv_lgz, mv_stz, mv_kz, mv_cz, mv_fvs, mv_ats, mv_ics, mv_rz, mv_tz, mv_cns, mv_nfs, mv_fins, mv_det, mv_cc, mv_c0, Nat.reduceAdd, Nat.reduceEqDiff, Nat.reduceLT, Nat.reduceLeDiff, Nat.reduceSub, reduceIte, decide_false, decide_true, Bool.false_eq_true, List.map_cons, List.map_nil, List.sum_cons, List.sum_nil, true_and, and_true, true_or, or_true, false_or, or_false, false_and, and_false, true_implies, false_implies, implies_true, not_true_eq_false, not_false_eq_true, lg_cmp_ge, lg_cmp_le, lg_cmp_gt, lg_cmp_lt, lg_cmp_eq, qL780]
  exact go h2 z2
set_option maxRecDepth 100000 in
set_option maxHeartbeats 4000000 in
theorem lc_told {L : Nat} {xs : Nat → Int32} {X : mv_K} (hX : lwX L xs X) {n : Nat} {h : mv_M} (hn : n + 7 ≤ L) (hL : L ≤ 3584) (z : iv kdF h h) (go : ∀ h', iv kdF h' h' → X 808 (lwL n) [] h') : X 785 (lwL n) [] h := by
  have v1 : vp_in (nI n + 1) L := vpL (j := 1) hn hL (by omega)
  unfold lwX at hX
  obtain ⟨p6, f6⟩ := lw_told (xs (nI n + 1).toNatClampNeg) h z
  refine mv_go hX 6 ?_
  simp only [mv_wps, mv_exq, mv_exr, mv_exn, mv_xg, mv_xpi, mv_xpl, mv_xpr, mv_xc, mv_xc2, mv_xs, mv_9z, mv_cqs, mv_calls, mv_lgz, mv_stz, mv_kz, mv_cz, mv_fvs, mv_ats, mv_ics, mv_rz, mv_tz, mv_cns, mv_nfs, mv_fins, mv_det, mv_cc, mv_c0, Nat.reduceAdd, Nat.reduceEqDiff, Nat.reduceLT, Nat.reduceLeDiff, Nat.reduceSub, reduceIte, decide_false, decide_true, Bool.false_eq_true, List.map_cons, List.map_nil, List.sum_cons, List.sum_nil, true_and, and_true, true_or, or_true, false_or, or_false, false_and, and_false, true_implies, false_implies, implies_true, not_true_eq_false, not_false_eq_true, lg_cmp_ge, lg_cmp_le, lg_cmp_gt, lg_cmp_lt, lg_cmp_eq, mv_exL, qL785, qL786, qL787, qL788, qL789, qL790, qL791, csL_107, kdF_0, v1]
  refine ⟨p6, fun v h1 q6 => ?_⟩
  obtain ⟨⟨x, rfl⟩, p7, f7⟩ := f6 v h1 q6
  refine mv_go hX 6 ?_
  simp only [mv_wps, mv_exq, mv_exr, mv_exn, mv_xg, mv_xpi, mv_xpl, mv_xpr, mv_xc, mv_xc2, mv_xs, mv_9z, mv_cqs, mv_calls, mv_lgz, mv_stz, mv_kz, mv_cz, mv_fvs, mv_ats, mv_ics, mv_rz, mv_tz, mv_cns, mv_nfs, mv_fins, mv_det, mv_cc, mv_c0, Nat.reduceAdd, Nat.reduceEqDiff, Nat.reduceLT, Nat.reduceLeDiff, Nat.reduceSub, reduceIte, decide_false, decide_true, Bool.false_eq_true, List.map_cons, List.map_nil, List.sum_cons, List.sum_nil, true_and, and_true, true_or, or_true, false_or, or_false, false_and, and_false, true_implies, false_implies, implies_true, not_true_eq_false, not_false_eq_true, lg_cmp_ge, lg_cmp_le, lg_cmp_gt, lg_cmp_lt, lg_cmp_eq, mv_exL, qL794, qL795, qL796, qL797, qL798, qL799, qL800, csL_110, kdF_157, v1]
  refine ⟨p7, fun v' h2 q7 => ?_⟩
  obtain ⟨rfl, z2⟩ := f7 v' h2 q7
  refine mv_go hX 0 ?_
  simp only [mv_wps, mv_exq, mv_exr, mv_exn, mv_xg, mv_xpi, mv_xpl, mv_xpr, mv_xc, mv_xc2, mv_xs, mv_9z, mv_cqs, mv_calls, mv_lgz, mv_stz, mv_kz, mv_cz, mv_fvs, mv_ats, mv_ics, mv_rz, mv_tz, mv_cns, mv_nfs, mv_fins, mv_det, mv_cc, mv_c0, Nat.reduceAdd, Nat.reduceEqDiff, Nat.reduceLT, Nat.reduceLeDiff, Nat.reduceSub, reduceIte, decide_false, decide_true, Bool.false_eq_true, List.map_cons, List.map_nil, List.sum_cons, List.sum_nil, true_and, and_true, true_or, or_true, false_or, or_false, false_and, and_false, true_implies, false_implies, implies_true, not_true_eq_false, not_false_eq_true, lg_cmp_ge, lg_cmp_le, lg_cmp_gt, lg_cmp_lt, lg_cmp_eq, qL803]
  exact go h2 z2
theorem i32_sub7 {L : Nat} (hL : L ≤ 3584) : (nI L - 7).toInt = (L : Int) - 7 := by
  rw [Int32.toInt_sub, nI_toInt (by omega)]
  have e : (7 : Int32).toInt = 7 := by decide
  rw [e]
  exact Int.bmod_eq_of_le (by omega) (by omega)
set_option maxRecDepth 100000 in
set_option maxHeartbeats 4000000 in
theorem lw_iter {L : Nat} {xs : Nat → Int32} {X : mv_K} (hX : lwX L xs X) {n : Nat} {h : mv_M} (hn0 : n ≤ 3584) (hL : L ≤ 3584) (z : iv kdF h h) (ih : n + 7 ≤ L → ∀ h', iv kdF h' h' → X 808 (lwL n) [] h') : X 18 (lwL n) [] h := by
  have hX2 := hX
  unfold lwX at hX2
  refine mv_go hX2 5 ?_
  simp only [mv_wps, mv_exq, mv_exr, mv_exn, mv_xg, mv_xpi, mv_xpl, mv_xpr, mv_xc, mv_xc2, mv_xs, mv_9z, mv_cqs, mv_calls, mv_lgz, mv_stz, mv_kz, mv_cz, mv_fvs, mv_ats, mv_ics, mv_rz, mv_tz, mv_cns, mv_nfs, mv_fins, mv_det, mv_cc, mv_c0, Nat.reduceAdd, Nat.reduceEqDiff, Nat.reduceLT, Nat.reduceLeDiff, Nat.reduceSub, reduceIte, decide_false, decide_true, Bool.false_eq_true, List.map_cons, List.map_nil, List.sum_cons, List.sum_nil, true_and, and_true, true_or, or_true, false_or, or_false, false_and, and_false, true_implies, false_implies, implies_true, not_true_eq_false, not_false_eq_true, lg_cmp_ge, lg_cmp_le, lg_cmp_gt, lg_cmp_lt, lg_cmp_eq, mv_exL, qL18, qL19, qL20, qL21, qL23, qL24]
  refine ⟨fun w => ?_, fun w => ?_⟩
  · show X 814 _ _ _
    refine mv_go hX2 1 ?_
    simp only [mv_wps, mv_exq, mv_exr, mv_exn, mv_xg, mv_xpi, mv_xpl, mv_xpr, mv_xc, mv_xc2, mv_xs, mv_9z, mv_cqs, mv_calls, mv_lgz, mv_stz, mv_kz, mv_cz, mv_fvs, mv_ats, mv_ics, mv_rz, mv_tz, mv_cns, mv_nfs, mv_fins, mv_det, mv_cc, mv_c0, Nat.reduceAdd, Nat.reduceEqDiff, Nat.reduceLT, Nat.reduceLeDiff, Nat.reduceSub, reduceIte, decide_false, decide_true, Bool.false_eq_true, List.map_cons, List.map_nil, List.sum_cons, List.sum_nil, true_and, and_true, true_or, or_true, false_or, or_false, false_and, and_false, true_implies, false_implies, implies_true, not_true_eq_false, not_false_eq_true, lg_cmp_ge, lg_cmp_le, lg_cmp_gt, lg_cmp_lt, lg_cmp_eq, qL814, qL815, eq_self]
  have hn : n + 7 ≤ L := by
    have w2 : ¬ ((nI L - 7).toInt < (nI n).toInt) := fun w3 => w (Int32.lt_iff_toInt_lt.mpr w3)
    rw [i32_sub7 hL, nI_toInt (by omega)] at w2
    omega
  replace ih := ih hn
  have v0 : vp_in (nI n) L := vp_in_nI (by omega) (by omega)
  refine mv_go hX2 5 ?_
  simp only [mv_wps, mv_exq, mv_exr, mv_exn, mv_xg, mv_xpi, mv_xpl, mv_xpr, mv_xc, mv_xc2, mv_xs, mv_9z, mv_cqs, mv_calls, mv_lgz, mv_stz, mv_kz, mv_cz, mv_fvs, mv_ats, mv_ics, mv_rz, mv_tz, mv_cns, mv_nfs, mv_fins, mv_det, mv_cc, mv_c0, Nat.reduceAdd, Nat.reduceEqDiff, Nat.reduceLT, Nat.reduceLeDiff, Nat.reduceSub, reduceIte, decide_false, decide_true, Bool.false_eq_true, List.map_cons, List.map_nil, List.sum_cons, List.sum_nil, true_and, and_true, true_or, or_true, false_or, or_false, false_and, and_false, true_implies, false_implies, implies_true, not_true_eq_false, not_false_eq_true, lg_cmp_ge, lg_cmp_le, lg_cmp_gt, lg_cmp_lt, lg_cmp_eq, mv_exL, qL27, qL28, qL29, qL30, qL32, qL33, v0]
  refine ⟨fun j off hj e hle => ?_, fun ho => ?_, by decide⟩
  · rcases j with _ | _ | _ | _ | _ | _ | _ | _ | _ | _ | _ | _ | _ | _ | _ | _ | _ | _ | _ | _ | _ | _ | j
    · obtain rfl : off = 103 := by simpa using hj.symm
      exact lc_sheet hX hn hL z (fun h' z' => ih h' z')
    · obtain rfl : off = 126 := by simpa using hj.symm
      exact lc_cell hX hn hL z (fun h' z' => ih h' z')
    · obtain rfl : off = 169 := by simpa using hj.symm
      exact lc_cellOf hX hn hL z (fun h' z' => ih h' z')
    · obtain rfl : off = 202 := by simpa using hj.symm
      exact lc_take hX hn hL z (fun h' z' => ih h' z')
    · obtain rfl : off = 215 := by simpa using hj.symm
      exact lc_table hX hn hL z (fun h' z' => ih h' z')
    · obtain rfl : off = 258 := by simpa using hj.symm
      exact lc_about hX hn hL z (fun h' z' => ih h' z')
    · obtain rfl : off = 292 := by simpa using hj.symm
      exact lc_rows hX hn hL z (fun h' z' => ih h' z')
    · obtain rfl : off = 325 := by simpa using hj.symm
      exact lc_theta hX hn hL z (fun h' z' => ih h' z')
    · obtain rfl : off = 358 := by simpa using hj.symm
      exact lc_row hX hn hL z (fun h' z' => ih h' z')
    · obtain rfl : off = 391 := by simpa using hj.symm
      exact lc_size hX hn hL z (fun h' z' => ih h' z')
    · obtain rfl : off = 415 := by simpa using hj.symm
      exact lc_reduce hX hn hL z (fun h' z' => ih h' z')
    · obtain rfl : off = 438 := by simpa using hj.symm
      exact lc_same hX hn hL z (fun h' z' => ih h' z')
    · obtain rfl : off = 471 := by simpa using hj.symm
      exact lc_way hX hn hL z (fun h' z' => ih h' z')
    · obtain rfl : off = 504 := by simpa using hj.symm
      exact lc_wayWorth hX hn hL z (fun h' z' => ih h' z')
    · obtain rfl : off = 518 := by simpa using hj.symm
      exact lc_dual hX hn hL z (fun h' z' => ih h' z')
    · obtain rfl : off = 541 := by simpa using hj.symm
      exact lc_sum hX hn hL z (fun h' z' => ih h' z')
    · obtain rfl : off = 574 := by simpa using hj.symm
      exact lc_scale hX hn hL z (fun h' z' => ih h' z')
    · obtain rfl : off = 607 := by simpa using hj.symm
      exact lc_within hX hn hL z (fun h' z' => ih h' z')
    · obtain rfl : off = 630 := by simpa using hj.symm
      exact lc_index hX hn hL z (fun h' z' => ih h' z')
    · obtain rfl : off = 644 := by simpa using hj.symm
      exact lc_denser hX hn hL z (fun h' z' => ih h' z')
    · obtain rfl : off = 677 := by simpa using hj.symm
      exact lc_nearest hX hn hL z (fun h' z' => ih h' z')
    · obtain rfl : off = 752 := by simpa using hj.symm
      exact lc_told hX hn hL z (fun h' z' => ih h' z')
    · simp at hj
  · exact ih h z
theorem lw_loop {L : Nat} {xs : Nat → Int32} {X : mv_K} (hX : lwX L xs X) (hL : L ≤ 3584) : ∀ (k n : Nat) (h : mv_M), L ≤ n + k → n ≤ 3584 → iv kdF h h → X 18 (lwL n) [] h
  | 0, n, h, h1, h2, z => lw_iter hX h2 hL z (fun hn => absurd h1 (by omega))
  | k + 1, n, h, h1, h2, z => lw_iter hX h2 hL z (fun hn h' z' => by
      have e : nI n + 7 = nI (n + 7) := nI_add n 7
      have hX2 := hX
      unfold lwX at hX2
      refine mv_go hX2 1 ?_
      simp only [mv_wps, mv_exq, mv_exr, mv_exn, mv_xg, mv_xpi, mv_xpl, mv_xpr, mv_xc, mv_xc2, mv_xs, mv_9z, mv_cqs, mv_calls, mv_lgz, mv_stz, mv_kz, mv_cz, mv_fvs, mv_ats, mv_ics, mv_rz, mv_tz, mv_cns, mv_nfs, mv_fins, mv_det, mv_cc, mv_c0, Nat.reduceAdd, Nat.reduceEqDiff, Nat.reduceLT, Nat.reduceLeDiff, Nat.reduceSub, reduceIte, decide_false, decide_true, Bool.false_eq_true, List.map_cons, List.map_nil, List.sum_cons, List.sum_nil, true_and, and_true, true_or, or_true, false_or, or_false, false_and, and_false, true_implies, false_implies, implies_true, not_true_eq_false, not_false_eq_true, lg_cmp_ge, lg_cmp_le, lg_cmp_gt, lg_cmp_lt, lg_cmp_eq, qL808, qL811, e]
      exact lw_loop hX hL k (n + 7) h' (by omega) (by omega) z')
set_option maxRecDepth 100000 in
theorem lw_main {L : Nat} {xs : Nat → Int32} {X : mv_K} (hX : lwX L xs X) (hL : L ≤ 3584) : X 16 [some (.ref 178), some (.ref 0), some (.ref 157), none] [] hF := by
  have hX2 := hX
  unfold lwX at hX2
  refine mv_go hX2 1 ?_
  simp only [mv_wps, mv_exq, mv_exr, mv_exn, mv_xg, mv_xpi, mv_xpl, mv_xpr, mv_xc, mv_xc2, mv_xs, mv_9z, mv_cqs, mv_calls, mv_lgz, mv_stz, mv_kz, mv_cz, mv_fvs, mv_ats, mv_ics, mv_rz, mv_tz, mv_cns, mv_nfs, mv_fins, mv_det, mv_cc, mv_c0, Nat.reduceAdd, Nat.reduceEqDiff, Nat.reduceLT, Nat.reduceLeDiff, Nat.reduceSub, reduceIte, decide_false, decide_true, Bool.false_eq_true, List.map_cons, List.map_nil, List.sum_cons, List.sum_nil, true_and, and_true, true_or, or_true, false_or, or_false, false_and, and_false, true_implies, false_implies, implies_true, not_true_eq_false, not_false_eq_true, lg_cmp_ge, lg_cmp_le, lg_cmp_gt, lg_cmp_lt, lg_cmp_eq, qL16, qL17]
  exact lw_loop hX hL L 0 hF (by omega) (by omega) iv_begin
