/-! The reference: what is looked up. -/
def sX7_told (kd : List (Nat × Nat)) : mv_S := ms_ai (fun m _ h => moOk kd h m) (fun m i h v h' => v = some (.int (if i = 0 then h.1 m 2 else if i = 1 then h.1 m 3 else if i = 2 then h.1 m 7 else if i = 3 then h.1 m 10 else -1)) ∧ h' = h)
theorem i32_of {x : Int32} {k : Nat} (h : x.toInt = 0 + (k : Int)) (hk : k < 2 ^ 31) : x = nI k := by
  apply Int32.toInt_inj.mp
  rw [nI_toInt hk, h]
  omega
theorem nI_s : nI 0 = 0 ∧ nI 1 = 1 ∧ nI 2 = 2 ∧ nI 3 = 3 := by decide
noncomputable def csX7_told (kd : List (Nat × Nat)) : mv_CS := mv_c0
theorem oX7_told {l : Launch} {b : Nat} {ad : Nat → Nat} {D : va_G} {cA : Nat → ClassId} {kd : List (Nat × Nat)} (had : ∀ i, i < kd.length → ad i = b + i) : mv_Own l (mv_room 0) b ad D cA kd RX7 flX7 cIX7 cLX7 (csX7_told kd) := (mv_o0 flX7_ok cIX7_ok cLX7_ok)
set_option maxRecDepth 100000 in
set_option maxHeartbeats 4000000 in
theorem ctX7_told {l : Launch} {b : Nat} {ad : Nat → Nat} {D : va_G} {cA : Nat → ClassId} {kd : List (Nat × Nat)} (had : ∀ i, i < kd.length → ad i = b + i) : mv_Ct l b ad D cA kd yX7_told cX7_told 2 (some .int) 0 (sX7_told kd) := by
  refine mv_introF (rk := 1) tX7_told (mv_pf plRX7) kX7_told had ⟨(fun e => by cases e), (fun _ => rfl), (fun e => by cases e), (fun e => by cases e), (fun e => by cases e)⟩ (oX7_told had) ?_
  intro h as hp
  obtain ⟨x0, x1, rfl, hq⟩ := ms_ai_inv hp
  refine ⟨Nat.le_of_ble_eq_true rfl, fun X hX => ?_⟩
  show X 0 [some (.ref x0), some (.int x1)] [] h
  obtain ⟨⟨k0, k1, k2, k3, k4, k5, k6, k7, k8, k9, k10, k11, k12, k13, k14, k15, k16, k17, k18, k19, k20⟩, ⟨r0, r1, r4, r5, r6, r9, r11, r12, r14, r15, r16, r17, r18, r19, r20, r21, r22, r23, r24, r25⟩⟩ := id hq
  refine mv_go hX 1 ?_
  simp only [mv_wps, mv_exq, mv_exr, mv_exn, mv_xg, mv_xpi, mv_xpl, mv_xpr, mv_xc, mv_xc2, mv_xs, mv_9z, mv_cqs, mv_calls, mv_lgz, mv_stz, mv_kz, mv_cz, mv_fvs, mv_ats, mv_ics, mv_rz, mv_tz, mv_cns, mv_nfs, mv_fins, mv_det, mv_cc, mv_c0, Nat.reduceAdd, Nat.reduceEqDiff, Nat.reduceLT, Nat.reduceLeDiff, Nat.reduceSub, reduceIte, decide_false, decide_true, Bool.false_eq_true, List.map_cons, List.map_nil, List.sum_cons, List.sum_nil, true_and, and_true, true_or, or_true, false_or, or_false, false_and, and_false, true_implies, false_implies, implies_true, not_true_eq_false, not_false_eq_true, lg_cmp_ge, lg_cmp_le, lg_cmp_gt, lg_cmp_lt, lg_cmp_eq, qX7_told, flX7s, cIX7s, cLX7s, csX7_told, sX7_told, ms_ai, k0]
  refine ⟨fun j off hj e hle => ?_, fun ho => ?_, by decide⟩
  · rcases j with _ | _ | _ | _ | j
    · obtain rfl : x1 = 0 := i32_of (k := 0) e (by decide)
      obtain rfl : off = 31 := by simpa using hj.symm
      show X 32 [some (.ref x0), some (.int 0)] [] h
      refine mv_go hX 20 ?_
      simp only [mv_wps, mv_exq, mv_exr, mv_exn, mv_xg, mv_xpi, mv_xpl, mv_xpr, mv_xc, mv_xc2, mv_xs, mv_9z, mv_cqs, mv_calls, mv_lgz, mv_stz, mv_kz, mv_cz, mv_fvs, mv_ats, mv_ics, mv_rz, mv_tz, mv_cns, mv_nfs, mv_fins, mv_det, mv_cc, mv_c0, Nat.reduceAdd, Nat.reduceEqDiff, Nat.reduceLT, Nat.reduceLeDiff, Nat.reduceSub, reduceIte, decide_false, decide_true, Bool.false_eq_true, List.map_cons, List.map_nil, List.sum_cons, List.sum_nil, true_and, and_true, true_or, or_true, false_or, or_false, false_and, and_false, true_implies, false_implies, implies_true, not_true_eq_false, not_false_eq_true, lg_cmp_ge, lg_cmp_le, lg_cmp_gt, lg_cmp_lt, lg_cmp_eq, qX7_told, flX7s, cIX7s, cLX7s, csX7_told, sX7_told, ms_ai, k0]
    · obtain rfl : x1 = 1 := i32_of (k := 1) e (by decide)
      obtain rfl : off = 36 := by simpa using hj.symm
      show X 37 [some (.ref x0), some (.int 1)] [] h
      refine mv_go hX 20 ?_
      simp only [mv_wps, mv_exq, mv_exr, mv_exn, mv_xg, mv_xpi, mv_xpl, mv_xpr, mv_xc, mv_xc2, mv_xs, mv_9z, mv_cqs, mv_calls, mv_lgz, mv_stz, mv_kz, mv_cz, mv_fvs, mv_ats, mv_ics, mv_rz, mv_tz, mv_cns, mv_nfs, mv_fins, mv_det, mv_cc, mv_c0, Nat.reduceAdd, Nat.reduceEqDiff, Nat.reduceLT, Nat.reduceLeDiff, Nat.reduceSub, reduceIte, decide_false, decide_true, Bool.false_eq_true, List.map_cons, List.map_nil, List.sum_cons, List.sum_nil, true_and, and_true, true_or, or_true, false_or, or_false, false_and, and_false, true_implies, false_implies, implies_true, not_true_eq_false, not_false_eq_true, lg_cmp_ge, lg_cmp_le, lg_cmp_gt, lg_cmp_lt, lg_cmp_eq, qX7_told, flX7s, cIX7s, cLX7s, csX7_told, sX7_told, ms_ai, k0]
      rfl
    · obtain rfl : x1 = 2 := i32_of (k := 2) e (by decide)
      obtain rfl : off = 41 := by simpa using hj.symm
      show X 42 [some (.ref x0), some (.int 2)] [] h
      refine mv_go hX 20 ?_
      simp only [mv_wps, mv_exq, mv_exr, mv_exn, mv_xg, mv_xpi, mv_xpl, mv_xpr, mv_xc, mv_xc2, mv_xs, mv_9z, mv_cqs, mv_calls, mv_lgz, mv_stz, mv_kz, mv_cz, mv_fvs, mv_ats, mv_ics, mv_rz, mv_tz, mv_cns, mv_nfs, mv_fins, mv_det, mv_cc, mv_c0, Nat.reduceAdd, Nat.reduceEqDiff, Nat.reduceLT, Nat.reduceLeDiff, Nat.reduceSub, reduceIte, decide_false, decide_true, Bool.false_eq_true, List.map_cons, List.map_nil, List.sum_cons, List.sum_nil, true_and, and_true, true_or, or_true, false_or, or_false, false_and, and_false, true_implies, false_implies, implies_true, not_true_eq_false, not_false_eq_true, lg_cmp_ge, lg_cmp_le, lg_cmp_gt, lg_cmp_lt, lg_cmp_eq, qX7_told, flX7s, cIX7s, cLX7s, csX7_told, sX7_told, ms_ai, k0]
      rfl
    · obtain rfl : x1 = 3 := i32_of (k := 3) e (by decide)
      obtain rfl : off = 46 := by simpa using hj.symm
      show X 47 [some (.ref x0), some (.int 3)] [] h
      refine mv_go hX 20 ?_
      simp only [mv_wps, mv_exq, mv_exr, mv_exn, mv_xg, mv_xpi, mv_xpl, mv_xpr, mv_xc, mv_xc2, mv_xs, mv_9z, mv_cqs, mv_calls, mv_lgz, mv_stz, mv_kz, mv_cz, mv_fvs, mv_ats, mv_ics, mv_rz, mv_tz, mv_cns, mv_nfs, mv_fins, mv_det, mv_cc, mv_c0, Nat.reduceAdd, Nat.reduceEqDiff, Nat.reduceLT, Nat.reduceLeDiff, Nat.reduceSub, reduceIte, decide_false, decide_true, Bool.false_eq_true, List.map_cons, List.map_nil, List.sum_cons, List.sum_nil, true_and, and_true, true_or, or_true, false_or, or_false, false_and, and_false, true_implies, false_implies, implies_true, not_true_eq_false, not_false_eq_true, lg_cmp_ge, lg_cmp_le, lg_cmp_gt, lg_cmp_lt, lg_cmp_eq, qX7_told, flX7s, cIX7s, cLX7s, csX7_told, sX7_told, ms_ai, k0]
      rfl
    · exact absurd e (by omega)
  · have q0 : ¬ x1 = 0 := fun z => by rw [z] at ho; revert ho; decide
    have q1 : ¬ x1 = 1 := fun z => by rw [z] at ho; revert ho; decide
    have q2 : ¬ x1 = 2 := fun z => by rw [z] at ho; revert ho; decide
    have q3 : ¬ x1 = 3 := fun z => by rw [z] at ho; revert ho; decide
    refine mv_go hX 20 ?_
    simp only [mv_wps, mv_exq, mv_exr, mv_exn, mv_xg, mv_xpi, mv_xpl, mv_xpr, mv_xc, mv_xc2, mv_xs, mv_9z, mv_cqs, mv_calls, mv_lgz, mv_stz, mv_kz, mv_cz, mv_fvs, mv_ats, mv_ics, mv_rz, mv_tz, mv_cns, mv_nfs, mv_fins, mv_det, mv_cc, mv_c0, Nat.reduceAdd, Nat.reduceEqDiff, Nat.reduceLT, Nat.reduceLeDiff, Nat.reduceSub, reduceIte, decide_false, decide_true, Bool.false_eq_true, List.map_cons, List.map_nil, List.sum_cons, List.sum_nil, true_and, and_true, true_or, or_true, false_or, or_false, false_and, and_false, true_implies, false_implies, implies_true, not_true_eq_false, not_false_eq_true, lg_cmp_ge, lg_cmp_le, lg_cmp_gt, lg_cmp_lt, lg_cmp_eq, qX7_told, flX7s, cIX7s, cLX7s, csX7_told, sX7_told, ms_ai, k0]
    rw [if_neg q0, if_neg q1, if_neg q2, if_neg q3]
theorem gHas_c {n : Nat} {i k : Int32} (hn : n ≤ 4) (z : gHas n i k) : vp_in (4 * i + k) 16 ∧ (4 * i + k).toNatClampNeg = 4 * i.toNatClampNeg + k.toNatClampNeg := by
  obtain ⟨a, c, h1, h2, rfl, rfl, -⟩ := gHas_ix hn z
  rw [nI_c4, nI_mul, nI_add, nI_clamp (n := a) (by omega), nI_clamp (n := c) (by omega), nI_clamp (by omega)]
  exact ⟨vp_in_nI (by omega) (by omega), rfl⟩
def sX7_cellOf (kd : List (Nat × Nat)) : mv_S := ms_aii (fun m _ _ h => moOk kd h m ∧ isN (h.1 m 3) 5) (fun m i k h v h' => v = some (.int (if gHas (moL h m) i k then (h.2.1 (m + 3) (4 * i.toNatClampNeg + k.toNatClampNeg)).toInt32 else -100000)) ∧ h' = h)
noncomputable def csX7_cellOf (kd : List (Nat × Nat)) : mv_CS := (mv_cc 79 99 3 (sX7_isIn kd) mv_c0)
theorem oX7_cellOf {l : Launch} {b : Nat} {ad : Nat → Nat} {D : va_G} {cA : Nat → ClassId} {kd : List (Nat × Nat)} (had : ∀ i, i < kd.length → ad i = b + i) : mv_Own l (mv_room 1) b ad D cA kd RX7 flX7 cIX7 cLX7 (csX7_cellOf kd) := (mv_oS lRX7_79 zX7_isIn (ctX7_isIn had) ⟨by decide, by decide⟩ (mv_o0 flX7_ok cIX7_ok cLX7_ok))
set_option maxRecDepth 100000 in
set_option maxHeartbeats 4000000 in
theorem ctX7_cellOf {l : Launch} {b : Nat} {ad : Nat → Nat} {D : va_G} {cA : Nat → ClassId} {kd : List (Nat × Nat)} (had : ∀ i, i < kd.length → ad i = b + i) : mv_Ct l b ad D cA kd yX7_cellOf cX7_cellOf 3 (some .int) 1 (sX7_cellOf kd) := by
  refine mv_introF (rk := 1) tX7_cellOf (mv_pf plRX7) kX7_cellOf had ⟨(fun e => by cases e), (fun _ => rfl), (fun e => by cases e), (fun e => by cases e), (fun e => by cases e)⟩ (oX7_cellOf had) ?_
  intro h as hp
  obtain ⟨x0, x1, x2, rfl, hq⟩ := ms_aii_inv hp
  refine ⟨Nat.le_of_ble_eq_true rfl, fun X hX => ?_⟩
  show X 0 [some (.ref x0), some (.int x1), some (.int x2)] [] h
  obtain ⟨hm, ⟨e1, h1⟩⟩ := hq
  obtain ⟨⟨k0, k1, k2, k3, k4, k5, k6, k7, k8, k9, k10, k11, k12, k13, k14, k15, k16, k17, k18, k19, k20⟩, ⟨r0, r1, r4, r5, r6, r9, r11, r12, r14, r15, r16, r17, r18, r19, r20, r21, r22, r23, r24, r25⟩⟩ := id hm
  have h1' : moL h x0 < 5 := h1
  have hi := isIn_N (i := x1) (n := moL h x0) (by omega)
  have hk := isIn_N (i := x2) (n := moL h x0) (by omega)
  have e1' : h.1 x0 3 = nI (moL h x0) := e1
  refine mv_go hX 60 ?_
  simp only [mv_wps, mv_exq, mv_exr, mv_exn, mv_xg, mv_xpi, mv_xpl, mv_xpr, mv_xc, mv_xc2, mv_xs, mv_9z, mv_cqs, mv_calls, mv_lgz, mv_stz, mv_kz, mv_cz, mv_fvs, mv_ats, mv_ics, mv_rz, mv_tz, mv_cns, mv_nfs, mv_fins, mv_det, mv_cc, mv_c0, Nat.reduceAdd, Nat.reduceEqDiff, Nat.reduceLT, Nat.reduceLeDiff, Nat.reduceSub, reduceIte, decide_false, decide_true, Bool.false_eq_true, List.map_cons, List.map_nil, List.sum_cons, List.sum_nil, true_and, and_true, true_or, or_true, false_or, or_false, false_and, and_false, true_implies, false_implies, implies_true, not_true_eq_false, not_false_eq_true, lg_cmp_ge, lg_cmp_le, lg_cmp_gt, lg_cmp_lt, lg_cmp_eq, qX7_cellOf, flX7s, cIX7s, cLX7s, csX7_cellOf, sX7_cellOf, sX7_isIn, ms_aii, ms_lll, k0, e1', r4, mv_lenK k3, mv_b01, hi, hk, Classical.not_not]
  refine ⟨fun z => ?_, fun z => ⟨fun w => ?_, fun w => ?_⟩⟩
  · rw [if_neg (fun q => z ⟨q.1, q.2.1⟩)]
  · rw [if_neg (fun q => w ⟨q.2.2.1, q.2.2.2⟩)]
  · have hh : gHas (moL h x0) x1 x2 := ⟨z.1, z.2, w.1, w.2⟩
    obtain ⟨q1, q2⟩ := gHas_c (by omega) hh
    rw [if_pos hh, q2]
    exact ⟨q1, rfl⟩
theorem i32_999 {x : Int32} : (-999 ≤ x.toInt64 ∧ x.toInt64 ≤ 999) ↔ (-999 ≤ x ∧ x ≤ 999) := by
  have e1 : (-999 : Int64) = (-999 : Int32).toInt64 := by decide
  have e2 : (999 : Int64) = (999 : Int32).toInt64 := by decide
  rw [e1, e2, i32_le, i32_le]
def sX7_cell (kd : List (Nat × Nat)) : mv_S := ms_aiii (fun m _ _ _ h => moOk kd h m ∧ isN (h.1 m 3) 5) (fun m i k x h v h' => (v = some (.int (if gHas (moL h m) i k ∧ -999 ≤ x ∧ x ≤ 999 then 1 else 0))) ∧ h' = if gHas (moL h m) i k ∧ -999 ≤ x ∧ x ≤ 999 then mv_sl h (m + 3) (4 * i.toNatClampNeg + k.toNatClampNeg) x.toInt64 else h)
noncomputable def csX7_cell (kd : List (Nat × Nat)) : mv_CS := (mv_cc 79 99 3 (sX7_isIn kd) mv_c0)
theorem oX7_cell {l : Launch} {b : Nat} {ad : Nat → Nat} {D : va_G} {cA : Nat → ClassId} {kd : List (Nat × Nat)} (had : ∀ i, i < kd.length → ad i = b + i) : mv_Own l (mv_room 1) b ad D cA kd RX7 flX7 cIX7 cLX7 (csX7_cell kd) := (mv_oS lRX7_79 zX7_isIn (ctX7_isIn had) ⟨by decide, by decide⟩ (mv_o0 flX7_ok cIX7_ok cLX7_ok))
set_option maxRecDepth 100000 in
set_option maxHeartbeats 4000000 in
theorem ctX7_cell {l : Launch} {b : Nat} {ad : Nat → Nat} {D : va_G} {cA : Nat → ClassId} {kd : List (Nat × Nat)} (had : ∀ i, i < kd.length → ad i = b + i) : mv_Ct l b ad D cA kd yX7_cell cX7_cell 4 (some .boolean) 1 (sX7_cell kd) := by
  refine mv_introF (rk := 2) tX7_cell (mv_pf plRX7) kX7_cell had ⟨(fun e => by cases e), (fun e => by cases e), (fun _ => rfl), (fun e => by cases e), (fun e => by cases e)⟩ (oX7_cell had) ?_
  intro h as hp
  obtain ⟨x0, x1, x2, x3, rfl, hq⟩ := ms_aiii_inv hp
  refine ⟨Nat.le_of_ble_eq_true rfl, fun X hX => ?_⟩
  show X 0 [some (.ref x0), some (.int x1), some (.int x2), some (.int x3)] [] h
  obtain ⟨hm, ⟨e1, h1⟩⟩ := hq
  obtain ⟨⟨k0, k1, k2, k3, k4, k5, k6, k7, k8, k9, k10, k11, k12, k13, k14, k15, k16, k17, k18, k19, k20⟩, ⟨r0, r1, r4, r5, r6, r9, r11, r12, r14, r15, r16, r17, r18, r19, r20, r21, r22, r23, r24, r25⟩⟩ := id hm
  have h1' : moL h x0 < 5 := h1
  have hi := isIn_N (i := x1) (n := moL h x0) (by omega)
  have hk := isIn_N (i := x2) (n := moL h x0) (by omega)
  have e1' : h.1 x0 3 = nI (moL h x0) := e1
  refine mv_go hX 60 ?_
  simp only [mv_wps, mv_exq, mv_exr, mv_exn, mv_xg, mv_xpi, mv_xpl, mv_xpr, mv_xc, mv_xc2, mv_xs, mv_9z, mv_cqs, mv_calls, mv_lgz, mv_stz, mv_kz, mv_cz, mv_fvs, mv_ats, mv_ics, mv_rz, mv_tz, mv_cns, mv_nfs, mv_fins, mv_det, mv_cc, mv_c0, Nat.reduceAdd, Nat.reduceEqDiff, Nat.reduceLT, Nat.reduceLeDiff, Nat.reduceSub, reduceIte, decide_false, decide_true, Bool.false_eq_true, List.map_cons, List.map_nil, List.sum_cons, List.sum_nil, true_and, and_true, true_or, or_true, false_or, or_false, false_and, and_false, true_implies, false_implies, implies_true, not_true_eq_false, not_false_eq_true, lg_cmp_ge, lg_cmp_le, lg_cmp_gt, lg_cmp_lt, lg_cmp_eq, qX7_cell, flX7s, cIX7s, cLX7s, csX7_cell, sX7_cell, sX7_isIn, ms_aiii, ms_lll, k0, e1', r4, mv_lenK k3, mv_b01, hi, hk, Classical.not_not, i32_999]
  refine ⟨fun z => ?_, fun z => ⟨fun w => ?_, fun w => ⟨fun y => ?_, fun y => ?_⟩⟩⟩
  · rw [if_neg (fun q => z ⟨q.1.1, q.1.2.1⟩), if_neg (fun q => z ⟨q.1.1, q.1.2.1⟩)]
    exact ⟨rfl, rfl⟩
  · rw [if_neg (fun q => w ⟨q.1.2.2.1, q.1.2.2.2⟩), if_neg (fun q => w ⟨q.1.2.2.1, q.1.2.2.2⟩)]
    exact ⟨rfl, rfl⟩
  · have hh : gHas (moL h x0) x1 x2 := ⟨z.1, z.2, w.1, w.2⟩
    obtain ⟨q1, q2⟩ := gHas_c (by omega) hh
    rw [if_pos ⟨hh, y⟩, if_pos ⟨hh, y⟩, q2]
    exact ⟨q1, rfl, rfl⟩
  · rw [if_neg (fun q => y q.2), if_neg (fun q => y q.2)]
    exact ⟨rfl, rfl⟩
def sX7_way (kd : List (Nat × Nat)) : mv_S := ms_aii (fun m _ _ h => moOk kd h m ∧ isN (h.1 m 10) 5) (fun m i k h v h' => v = some (.int (if gHas (h.1 m 10).toNatClampNeg i k then (h.2.1 (m + 6) (4 * i.toNatClampNeg + k.toNatClampNeg)).toInt32 else -100000)) ∧ h' = h)
noncomputable def csX7_way (kd : List (Nat × Nat)) : mv_CS := (mv_cc 79 99 3 (sX7_isIn kd) mv_c0)
theorem oX7_way {l : Launch} {b : Nat} {ad : Nat → Nat} {D : va_G} {cA : Nat → ClassId} {kd : List (Nat × Nat)} (had : ∀ i, i < kd.length → ad i = b + i) : mv_Own l (mv_room 1) b ad D cA kd RX7 flX7 cIX7 cLX7 (csX7_way kd) := (mv_oS lRX7_79 zX7_isIn (ctX7_isIn had) ⟨by decide, by decide⟩ (mv_o0 flX7_ok cIX7_ok cLX7_ok))
set_option maxRecDepth 100000 in
set_option maxHeartbeats 4000000 in
theorem ctX7_way {l : Launch} {b : Nat} {ad : Nat → Nat} {D : va_G} {cA : Nat → ClassId} {kd : List (Nat × Nat)} (had : ∀ i, i < kd.length → ad i = b + i) : mv_Ct l b ad D cA kd yX7_way cX7_way 3 (some .int) 1 (sX7_way kd) := by
  refine mv_introF (rk := 1) tX7_way (mv_pf plRX7) kX7_way had ⟨(fun e => by cases e), (fun _ => rfl), (fun e => by cases e), (fun e => by cases e), (fun e => by cases e)⟩ (oX7_way had) ?_
  intro h as hp
  obtain ⟨x0, x1, x2, rfl, hq⟩ := ms_aii_inv hp
  refine ⟨Nat.le_of_ble_eq_true rfl, fun X hX => ?_⟩
  show X 0 [some (.ref x0), some (.int x1), some (.int x2)] [] h
  obtain ⟨hm, ⟨e1, h1⟩⟩ := hq
  obtain ⟨⟨k0, k1, k2, k3, k4, k5, k6, k7, k8, k9, k10, k11, k12, k13, k14, k15, k16, k17, k18, k19, k20⟩, ⟨r0, r1, r4, r5, r6, r9, r11, r12, r14, r15, r16, r17, r18, r19, r20, r21, r22, r23, r24, r25⟩⟩ := id hm
  generalize hn : (h.1 x0 10).toNatClampNeg = n at e1 h1
  have hi := isIn_N (i := x1) (n := n) (by omega)
  have hk := isIn_N (i := x2) (n := n) (by omega)
  refine mv_go hX 60 ?_
  simp only [mv_wps, mv_exq, mv_exr, mv_exn, mv_xg, mv_xpi, mv_xpl, mv_xpr, mv_xc, mv_xc2, mv_xs, mv_9z, mv_cqs, mv_calls, mv_lgz, mv_stz, mv_kz, mv_cz, mv_fvs, mv_ats, mv_ics, mv_rz, mv_tz, mv_cns, mv_nfs, mv_fins, mv_det, mv_cc, mv_c0, Nat.reduceAdd, Nat.reduceEqDiff, Nat.reduceLT, Nat.reduceLeDiff, Nat.reduceSub, reduceIte, decide_false, decide_true, Bool.false_eq_true, List.map_cons, List.map_nil, List.sum_cons, List.sum_nil, true_and, and_true, true_or, or_true, false_or, or_false, false_and, and_false, true_implies, false_implies, implies_true, not_true_eq_false, not_false_eq_true, lg_cmp_ge, lg_cmp_le, lg_cmp_gt, lg_cmp_lt, lg_cmp_eq, qX7_way, flX7s, cIX7s, cLX7s, csX7_way, sX7_way, sX7_isIn, ms_aii, ms_lll, k0, e1, r9, mv_lenK k6, mv_b01, hi, hk, Classical.not_not]
  rw [nI_clamp (n := n) (by omega)]
  refine ⟨fun z => ?_, fun z => ⟨fun w => ?_, fun w => ?_⟩⟩
  · rw [if_neg (fun q => z ⟨q.1, q.2.1⟩)]
  · rw [if_neg (fun q => w ⟨q.2.2.1, q.2.2.2⟩)]
  · have hh : gHas n x1 x2 := ⟨z.1, z.2, w.1, w.2⟩
    obtain ⟨q1, q2⟩ := gHas_c (by omega) hh
    rw [if_pos hh, q2]
    exact ⟨q1, rfl⟩
abbrev lHas (c n : Nat) (i k : Int32) : Prop := inR c i ∧ inR n k
def sX7_row (kd : List (Nat × Nat)) : mv_S := ms_aii (fun m _ _ h => moOk kd h m ∧ isN (h.1 m 7) 1001 ∧ isN (h.1 m 8) 5) (fun m i k h v h' => v = some (.int (if lHas (h.1 m 7).toNatClampNeg (h.1 m 8).toNatClampNeg i k then (h.2.1 (m + 4) (4 * i.toNatClampNeg + k.toNatClampNeg)).toInt32 else -100000)) ∧ h' = h)
noncomputable def csX7_row (kd : List (Nat × Nat)) : mv_CS := (mv_cc 79 99 3 (sX7_isIn kd) mv_c0)
theorem oX7_row {l : Launch} {b : Nat} {ad : Nat → Nat} {D : va_G} {cA : Nat → ClassId} {kd : List (Nat × Nat)} (had : ∀ i, i < kd.length → ad i = b + i) : mv_Own l (mv_room 1) b ad D cA kd RX7 flX7 cIX7 cLX7 (csX7_row kd) := (mv_oS lRX7_79 zX7_isIn (ctX7_isIn had) ⟨by decide, by decide⟩ (mv_o0 flX7_ok cIX7_ok cLX7_ok))
set_option maxRecDepth 100000 in
set_option maxHeartbeats 4000000 in
theorem ctX7_row {l : Launch} {b : Nat} {ad : Nat → Nat} {D : va_G} {cA : Nat → ClassId} {kd : List (Nat × Nat)} (had : ∀ i, i < kd.length → ad i = b + i) : mv_Ct l b ad D cA kd yX7_row cX7_row 3 (some .int) 1 (sX7_row kd) := by
  refine mv_introF (rk := 1) tX7_row (mv_pf plRX7) kX7_row had ⟨(fun e => by cases e), (fun _ => rfl), (fun e => by cases e), (fun e => by cases e), (fun e => by cases e)⟩ (oX7_row had) ?_
  intro h as hp
  obtain ⟨x0, x1, x2, rfl, hq⟩ := ms_aii_inv hp
  refine ⟨Nat.le_of_ble_eq_true rfl, fun X hX => ?_⟩
  show X 0 [some (.ref x0), some (.int x1), some (.int x2)] [] h
  obtain ⟨hm, ⟨e1, h1⟩, ⟨e2, h2⟩⟩ := hq
  obtain ⟨⟨k0, k1, k2, k3, k4, k5, k6, k7, k8, k9, k10, k11, k12, k13, k14, k15, k16, k17, k18, k19, k20⟩, ⟨r0, r1, r4, r5, r6, r9, r11, r12, r14, r15, r16, r17, r18, r19, r20, r21, r22, r23, r24, r25⟩⟩ := id hm
  generalize hc : (h.1 x0 7).toNatClampNeg = c at e1 h1
  generalize hn : (h.1 x0 8).toNatClampNeg = n at e2 h2
  have hi := isIn_N (i := x1) (n := c) (by omega)
  have hk := isIn_N (i := x2) (n := n) (by omega)
  refine mv_go hX 60 ?_
  simp only [mv_wps, mv_exq, mv_exr, mv_exn, mv_xg, mv_xpi, mv_xpl, mv_xpr, mv_xc, mv_xc2, mv_xs, mv_9z, mv_cqs, mv_calls, mv_lgz, mv_stz, mv_kz, mv_cz, mv_fvs, mv_ats, mv_ics, mv_rz, mv_tz, mv_cns, mv_nfs, mv_fins, mv_det, mv_cc, mv_c0, Nat.reduceAdd, Nat.reduceEqDiff, Nat.reduceLT, Nat.reduceLeDiff, Nat.reduceSub, reduceIte, decide_false, decide_true, Bool.false_eq_true, List.map_cons, List.map_nil, List.sum_cons, List.sum_nil, true_and, and_true, true_or, or_true, false_or, or_false, false_and, and_false, true_implies, false_implies, implies_true, not_true_eq_false, not_false_eq_true, lg_cmp_ge, lg_cmp_le, lg_cmp_gt, lg_cmp_lt, lg_cmp_eq, qX7_row, flX7s, cIX7s, cLX7s, csX7_row, sX7_row, sX7_isIn, ms_aii, ms_lll, k0, e1, e2, r5, mv_lenK k4, mv_b01, hi, hk, Classical.not_not]
  rw [nI_clamp (n := n) (by omega), nI_clamp (n := c) (by omega)]
  refine ⟨fun z => ?_, fun z => ⟨fun w => ?_, fun w => ?_⟩⟩
  · rw [if_neg (fun q => z q.1)]
  · rw [if_neg (fun q => w q.2)]
  · rw [if_pos ⟨z, w⟩]
    obtain ⟨a, ha, rfl⟩ := inR_nat z (by omega)
    obtain ⟨d, hd, rfl⟩ := inR_nat w (by omega)
    rw [nI_c4, nI_mul, nI_add, nI_clamp (n := a) (by omega), nI_clamp (n := d) (by omega), nI_clamp (by omega)]
    exact ⟨vp_in_nI (by omega) (by omega), rfl⟩
def sX7_size (kd : List (Nat × Nat)) : mv_S := ms_ai (fun m _ h => moOk kd h m ∧ isN (h.1 m 7) 1001) (fun m i h v h' => v = some (.long (if inR (h.1 m 7).toNatClampNeg i then h.2.1 (m + 5) i.toNatClampNeg else -1)) ∧ h' = h)
noncomputable def csX7_size (kd : List (Nat × Nat)) : mv_CS := (mv_cc 79 99 3 (sX7_isIn kd) mv_c0)
theorem oX7_size {l : Launch} {b : Nat} {ad : Nat → Nat} {D : va_G} {cA : Nat → ClassId} {kd : List (Nat × Nat)} (had : ∀ i, i < kd.length → ad i = b + i) : mv_Own l (mv_room 1) b ad D cA kd RX7 flX7 cIX7 cLX7 (csX7_size kd) := (mv_oS lRX7_79 zX7_isIn (ctX7_isIn had) ⟨by decide, by decide⟩ (mv_o0 flX7_ok cIX7_ok cLX7_ok))
set_option maxRecDepth 100000 in
set_option maxHeartbeats 4000000 in
theorem ctX7_size {l : Launch} {b : Nat} {ad : Nat → Nat} {D : va_G} {cA : Nat → ClassId} {kd : List (Nat × Nat)} (had : ∀ i, i < kd.length → ad i = b + i) : mv_Ct l b ad D cA kd yX7_size cX7_size 2 (some .long) 1 (sX7_size kd) := by
  refine mv_introF (rk := 3) tX7_size (mv_pf plRX7) kX7_size had ⟨(fun e => by cases e), (fun e => by cases e), (fun e => by cases e), (fun _ => rfl), (fun e => by cases e)⟩ (oX7_size had) ?_
  intro h as hp
  obtain ⟨x0, x1, rfl, hq⟩ := ms_ai_inv hp
  refine ⟨Nat.le_of_ble_eq_true rfl, fun X hX => ?_⟩
  show X 0 [some (.ref x0), some (.int x1)] [] h
  obtain ⟨hm, ⟨e1, h1⟩⟩ := hq
  obtain ⟨⟨k0, k1, k2, k3, k4, k5, k6, k7, k8, k9, k10, k11, k12, k13, k14, k15, k16, k17, k18, k19, k20⟩, ⟨r0, r1, r4, r5, r6, r9, r11, r12, r14, r15, r16, r17, r18, r19, r20, r21, r22, r23, r24, r25⟩⟩ := id hm
  generalize hc : (h.1 x0 7).toNatClampNeg = c at e1 h1
  have hi := isIn_N (i := x1) (n := c) (by omega)
  refine mv_go hX 60 ?_
  simp only [mv_wps, mv_exq, mv_exr, mv_exn, mv_xg, mv_xpi, mv_xpl, mv_xpr, mv_xc, mv_xc2, mv_xs, mv_9z, mv_cqs, mv_calls, mv_lgz, mv_stz, mv_kz, mv_cz, mv_fvs, mv_ats, mv_ics, mv_rz, mv_tz, mv_cns, mv_nfs, mv_fins, mv_det, mv_cc, mv_c0, Nat.reduceAdd, Nat.reduceEqDiff, Nat.reduceLT, Nat.reduceLeDiff, Nat.reduceSub, reduceIte, decide_false, decide_true, Bool.false_eq_true, List.map_cons, List.map_nil, List.sum_cons, List.sum_nil, true_and, and_true, true_or, or_true, false_or, or_false, false_and, and_false, true_implies, false_implies, implies_true, not_true_eq_false, not_false_eq_true, lg_cmp_ge, lg_cmp_le, lg_cmp_gt, lg_cmp_lt, lg_cmp_eq, qX7_size, flX7s, cIX7s, cLX7s, csX7_size, sX7_size, sX7_isIn, ms_ai, ms_lll, k0, e1, r6, mv_lenK k5, mv_b01, hi, Classical.not_not]
  rw [nI_clamp (n := c) (by omega)]
  refine ⟨fun z => ?_, fun z => ?_⟩
  · rw [if_neg z]
  · rw [if_pos z]
    exact ⟨inR_vp z (by omega) (by omega), rfl⟩
def moW (h : mv_M) (m l : Nat) : Nat := (h.1 (m + 1) l).toNatClampNeg
def moN (h : mv_M) (m : Nat) : Prop := isN (h.1 m 2) 21 ∧ ∀ l, l < 20 → isN (h.1 (m + 1) l) 5
abbrev tHas (h : mv_M) (m : Nat) (l i k : Int32) : Prop := inR (moC h m) l ∧ gHas (moW h m l.toNatClampNeg) i k
def sX7_table (kd : List (Nat × Nat)) : mv_S := ms_aiii (fun m _ _ _ h => moOk kd h m ∧ moN h m) (fun m l i k h v h' => v = some (.int (if tHas h m l i k then (h.2.1 (m + 2) (16 * l.toNatClampNeg + 4 * i.toNatClampNeg + k.toNatClampNeg)).toInt32 else -100000)) ∧ h' = h)
noncomputable def csX7_table (kd : List (Nat × Nat)) : mv_CS := (mv_cc 104 7 1 (sX7_isLattice kd) (mv_cc 79 99 3 (sX7_isIn kd) mv_c0))
theorem oX7_table {l : Launch} {b : Nat} {ad : Nat → Nat} {D : va_G} {cA : Nat → ClassId} {kd : List (Nat × Nat)} (had : ∀ i, i < kd.length → ad i = b + i) : mv_Own l (mv_room 2) b ad D cA kd RX7 flX7 cIX7 cLX7 (csX7_table kd) := (mv_oV lRX7_104 zX7_isLattice rfl (by decide) (ctX7_isLattice had) ⟨by decide, by decide⟩ (mv_oS lRX7_79 zX7_isIn (ctX7_isIn had) ⟨by decide, by decide⟩ (mv_o0 flX7_ok cIX7_ok cLX7_ok)))
set_option maxRecDepth 100000 in
set_option maxHeartbeats 4000000 in
theorem ctX7_table {l : Launch} {b : Nat} {ad : Nat → Nat} {D : va_G} {cA : Nat → ClassId} {kd : List (Nat × Nat)} (had : ∀ i, i < kd.length → ad i = b + i) : mv_Ct l b ad D cA kd yX7_table cX7_table 4 (some .int) 2 (sX7_table kd) := by
  refine mv_introF (rk := 1) tX7_table (mv_pf plRX7) kX7_table had ⟨(fun e => by cases e), (fun _ => rfl), (fun e => by cases e), (fun e => by cases e), (fun e => by cases e)⟩ (oX7_table had) ?_
  intro h as hp
  obtain ⟨x0, x1, x2, x3, rfl, hq⟩ := ms_aiii_inv hp
  refine ⟨Nat.le_of_ble_eq_true rfl, fun X hX => ?_⟩
  show X 0 [some (.ref x0), some (.int x1), some (.int x2), some (.int x3)] [] h
  obtain ⟨hm, hN⟩ := hq
  obtain ⟨⟨k0, k1, k2, k3, k4, k5, k6, k7, k8, k9, k10, k11, k12, k13, k14, k15, k16, k17, k18, k19, k20⟩, ⟨r0, r1, r4, r5, r6, r9, r11, r12, r14, r15, r16, r17, r18, r19, r20, r21, r22, r23, r24, r25⟩⟩ := id hm
  have hC : moC h x0 < 21 := hN.1.2
  have hW : ∀ l, l < 20 → h.1 (x0 + 1) l = nI (moW h x0 l) ∧ moW h x0 l < 5 := fun l hl => hN.2 l hl
  by_cases z : inR (moC h x0) x1
  · obtain ⟨a, ha, rfl⟩ := inR_nat z (by omega)
    obtain ⟨e1, h1⟩ := hW a (by omega)
    have ca : (nI a).toNatClampNeg = a := nI_clamp (by omega)
    have hi := isIn_N (i := x2) (n := moW h x0 a) (by omega)
    have hk := isIn_N (i := x3) (n := moW h x0 a) (by omega)
    have hv : vp_in (nI a) 20 := vp_in_nI (by omega) (by omega)
    refine mv_go hX 60 ?_
    simp only [mv_wps, mv_exq, mv_exr, mv_exn, mv_xg, mv_xpi, mv_xpl, mv_xpr, mv_xc, mv_xc2, mv_xs, mv_9z, mv_cqs, mv_calls, mv_lgz, mv_stz, mv_kz, mv_cz, mv_fvs, mv_ats, mv_ics, mv_rz, mv_tz, mv_cns, mv_nfs, mv_fins, mv_det, mv_cc, mv_c0, Nat.reduceAdd, Nat.reduceEqDiff, Nat.reduceLT, Nat.reduceLeDiff, Nat.reduceSub, reduceIte, decide_false, decide_true, Bool.false_eq_true, List.map_cons, List.map_nil, List.sum_cons, List.sum_nil, true_and, and_true, true_or, or_true, false_or, or_false, false_and, and_false, true_implies, false_implies, implies_true, not_true_eq_false, not_false_eq_true, lg_cmp_ge, lg_cmp_le, lg_cmp_gt, lg_cmp_lt, lg_cmp_eq, qX7_table, flX7s, cIX7s, cLX7s, csX7_table, sX7_table, sX7_isLattice, sX7_isIn, ms_ai, ms_aiii, ms_lll, k0, hm, hN.1, e1, r0, r1, mv_lenK k1, mv_lenK k2, mv_b01, hi, hk, Classical.not_not, z, ca, hv]
    refine ⟨fun y => absurd z y, fun _ => ⟨fun w => ?_, fun w => ⟨fun y => ?_, fun y => ?_⟩⟩⟩
    · rw [if_neg (fun q => w ⟨by have := q.2.1; exact this, by have := q.2.2.1; rw [ca] at this; exact this⟩)]
    · rw [if_neg (fun q => y ⟨by have := q.2.2.2.1; exact this, by have := q.2.2.2.2; rw [ca] at this; exact this⟩)]
    · rw [if_pos ⟨z, by rw [ca]; exact ⟨w.1, w.2, y.1, y.2⟩⟩]
      obtain ⟨c, hc, rfl⟩ := inR_nat w (by omega)
      obtain ⟨d, hd, rfl⟩ := inR_nat y (by omega)
      have e16 : (16 : Int32) * nI a + 4 * nI c + nI d = nI (16 * a + 4 * c + d) := by rw [nI_c16, nI_c4, nI_mul, nI_mul, nI_add, nI_add]
      rw [e16, nI_clamp (n := c) (by omega), nI_clamp (n := d) (by omega), nI_clamp (by omega)]
      exact ⟨vp_in_nI (by omega) (by omega), rfl⟩
  · have z' : ¬ inR (moC h x0) x1 := z
    refine mv_go hX 60 ?_
    simp only [mv_wps, mv_exq, mv_exr, mv_exn, mv_xg, mv_xpi, mv_xpl, mv_xpr, mv_xc, mv_xc2, mv_xs, mv_9z, mv_cqs, mv_calls, mv_lgz, mv_stz, mv_kz, mv_cz, mv_fvs, mv_ats, mv_ics, mv_rz, mv_tz, mv_cns, mv_nfs, mv_fins, mv_det, mv_cc, mv_c0, Nat.reduceAdd, Nat.reduceEqDiff, Nat.reduceLT, Nat.reduceLeDiff, Nat.reduceSub, reduceIte, decide_false, decide_true, Bool.false_eq_true, List.map_cons, List.map_nil, List.sum_cons, List.sum_nil, true_and, and_true, true_or, or_true, false_or, or_false, false_and, and_false, true_implies, false_implies, implies_true, not_true_eq_false, not_false_eq_true, lg_cmp_ge, lg_cmp_le, lg_cmp_gt, lg_cmp_lt, lg_cmp_eq, qX7_table, flX7s, cIX7s, cLX7s, csX7_table, sX7_table, sX7_isLattice, sX7_isIn, ms_ai, ms_aiii, ms_lll, k0, hm, hN.1, mv_b01, z']
    rw [if_neg (fun q => z q.1)]
