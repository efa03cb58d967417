def jAbs (x : Int64) : Int64 := if 0 ≤ x then x else -x
def jMaxI (x y : Int32) : Int32 := if x < y then y else x
def jMinI (x y : Int32) : Int32 := if y < x then y else x
def jMaxL (x y : Int64) : Int64 := if x < y then y else x
def jMinL (x y : Int64) : Int64 := if y < x then y else x
def jCmp (x y : Int64) : Int32 := if y ≤ x then (if x = y then 0 else 1) else -1
def jFd (x y : Int64) : Int64 := if 0 ≤ x ^^^ y then x / y else if x / y * y = x then x / y else x / y - 1
def jFm (x y : Int64) : Int64 := if 0 ≤ x ^^^ y then x - x / y * y else if x - x / y * y = 0 then x - x / y * y else x - x / y * y + y
def sJ9_abs_067f4 (_ : List (Nat × Nat)) : mv_S := ms_l (fun _ _ => True) (fun x h v h' => v = some (.long (jAbs x)) ∧ h' = h)
def sJ9_max_7cf53 (_ : List (Nat × Nat)) : mv_S := ms_ii (fun _ _ _ => True) (fun x y h v h' => v = some (.int (jMaxI x y)) ∧ h' = h)
def sJ9_min_7cf53 (_ : List (Nat × Nat)) : mv_S := ms_ii (fun _ _ _ => True) (fun x y h v h' => v = some (.int (jMinI x y)) ∧ h' = h)
def sJ9_max_f86c9 (_ : List (Nat × Nat)) : mv_S := ms_ll (fun _ _ _ => True) (fun x y h v h' => v = some (.long (jMaxL x y)) ∧ h' = h)
def sJ9_min_f86c9 (_ : List (Nat × Nat)) : mv_S := ms_ll (fun _ _ _ => True) (fun x y h v h' => v = some (.long (jMinL x y)) ∧ h' = h)
def sJ13_compare_74951 (_ : List (Nat × Nat)) : mv_S := ms_ll (fun _ _ _ => True) (fun x y h v h' => v = some (.int (jCmp x y)) ∧ h' = h)
def sJ9_floorDiv_f86c9 (_ : List (Nat × Nat)) : mv_S := ms_ll (fun _ y _ => ¬ y = 0) (fun x y h v h' => v = some (.long (jFd x y)) ∧ h' = h)
def sJ9_floorMod_f86c9 (_ : List (Nat × Nat)) : mv_S := ms_ll (fun _ y _ => ¬ y = 0) (fun x y h v h' => v = some (.long (jFm x y)) ∧ h' = h)
def csJ9_abs_067f4 (kd : List (Nat × Nat)) : mv_CS := mv_c0
theorem oJ9_abs_067f4 {l : Launch} {b : Nat} {ad : Nat → Nat} {D : va_G} {cA : Nat → ClassId} {kd : List (Nat × Nat)} (had : ∀ i, i < kd.length → ad i = b + i) : mv_Own l (mv_room 0) b ad D cA kd RJ9 (fun _ => none) (fun _ => none) (fun _ => none) (csJ9_abs_067f4 kd) := (mv_o0 (fun _ _ _ _ e => by cases e) (fun _ _ e => by cases e) (fun _ _ e => by cases e))
set_option maxRecDepth 100000 in
set_option maxHeartbeats 4000000 in
theorem ctJ9_abs_067f4 {l : Launch} {b : Nat} {ad : Nat → Nat} {D : va_G} {cA : Nat → ClassId} {kd : List (Nat × Nat)} (had : ∀ i, i < kd.length → ad i = b + i) : mv_Ct l b ad D cA kd yJ9_abs_067f4 cJ9_abs_067f4 2 (some .long) 0 (sJ9_abs_067f4 kd) := by
  refine mv_introF (rk := 3) tJ9_abs_067f4 pfJ9_abs_067f4 kJ9_abs_067f4 had ⟨(fun e => by cases e), (fun e => by cases e), (fun e => by cases e), (fun _ => rfl), (fun e => by cases e)⟩ (oJ9_abs_067f4 had) ?_
  intro h as hp
  obtain ⟨x0, rfl, hq⟩ := ms_l_inv hp
  refine ⟨Nat.le_of_ble_eq_true rfl, fun X hX => ?_⟩
  show X 0 [some (.long x0), none] [] h
  refine mv_go hX 20 ?_
  simp only [mv_wps, mv_exq, mv_exr, mv_exn, mv_xg, mv_xpi, mv_xpl, mv_xpr, mv_xc, mv_xc2, mv_xs, mv_9z, mv_cqs, mv_calls, mv_lgz, mv_stz, mv_kz, mv_cz, mv_fvs, mv_ats, mv_ics, mv_rz, mv_tz, mv_cns, mv_nfs, mv_fins, mv_det, mv_cc, mv_c0, Nat.reduceAdd, Nat.reduceEqDiff, Nat.reduceLT, Nat.reduceLeDiff, Nat.reduceSub, reduceIte, decide_false, decide_true, Bool.false_eq_true, List.map_cons, List.map_nil, List.sum_cons, List.sum_nil, true_and, and_true, true_or, or_true, false_or, or_false, false_and, and_false, true_implies, false_implies, implies_true, not_true_eq_false, not_false_eq_true, lg_cmp_ge, lg_cmp_le, lg_cmp_gt, lg_cmp_lt, lg_cmp_eq, qJ9_abs_067f4, csJ9_abs_067f4, sJ9_abs_067f4, ms_l]
  constructor <;> intro hc <;> simp [jAbs, hc]
def csJ9_max_7cf53 (kd : List (Nat × Nat)) : mv_CS := mv_c0
theorem oJ9_max_7cf53 {l : Launch} {b : Nat} {ad : Nat → Nat} {D : va_G} {cA : Nat → ClassId} {kd : List (Nat × Nat)} (had : ∀ i, i < kd.length → ad i = b + i) : mv_Own l (mv_room 0) b ad D cA kd RJ9 (fun _ => none) (fun _ => none) (fun _ => none) (csJ9_max_7cf53 kd) := (mv_o0 (fun _ _ _ _ e => by cases e) (fun _ _ e => by cases e) (fun _ _ e => by cases e))
set_option maxRecDepth 100000 in
set_option maxHeartbeats 4000000 in
theorem ctJ9_max_7cf53 {l : Launch} {b : Nat} {ad : Nat → Nat} {D : va_G} {cA : Nat → ClassId} {kd : List (Nat × Nat)} (had : ∀ i, i < kd.length → ad i = b + i) : mv_Ct l b ad D cA kd yJ9_max_7cf53 cJ9_max_7cf53 2 (some .int) 0 (sJ9_max_7cf53 kd) := by
  refine mv_introF (rk := 1) tJ9_max_7cf53 pfJ9_max_7cf53 kJ9_max_7cf53 had ⟨(fun e => by cases e), (fun _ => rfl), (fun e => by cases e), (fun e => by cases e), (fun e => by cases e)⟩ (oJ9_max_7cf53 had) ?_
  intro h as hp
  obtain ⟨x0, x1, rfl, hq⟩ := ms_ii_inv hp
  refine ⟨Nat.le_of_ble_eq_true rfl, fun X hX => ?_⟩
  show X 0 [some (.int x0), some (.int x1)] [] h
  refine mv_go hX 20 ?_
  simp only [mv_wps, mv_exq, mv_exr, mv_exn, mv_xg, mv_xpi, mv_xpl, mv_xpr, mv_xc, mv_xc2, mv_xs, mv_9z, mv_cqs, mv_calls, mv_lgz, mv_stz, mv_kz, mv_cz, mv_fvs, mv_ats, mv_ics, mv_rz, mv_tz, mv_cns, mv_nfs, mv_fins, mv_det, mv_cc, mv_c0, Nat.reduceAdd, Nat.reduceEqDiff, Nat.reduceLT, Nat.reduceLeDiff, Nat.reduceSub, reduceIte, decide_false, decide_true, Bool.false_eq_true, List.map_cons, List.map_nil, List.sum_cons, List.sum_nil, true_and, and_true, true_or, or_true, false_or, or_false, false_and, and_false, true_implies, false_implies, implies_true, not_true_eq_false, not_false_eq_true, lg_cmp_ge, lg_cmp_le, lg_cmp_gt, lg_cmp_lt, lg_cmp_eq, qJ9_max_7cf53, csJ9_max_7cf53, sJ9_max_7cf53, ms_ii]
  constructor <;> intro hc <;> simp [jMaxI, hc]
def csJ9_min_7cf53 (kd : List (Nat × Nat)) : mv_CS := mv_c0
theorem oJ9_min_7cf53 {l : Launch} {b : Nat} {ad : Nat → Nat} {D : va_G} {cA : Nat → ClassId} {kd : List (Nat × Nat)} (had : ∀ i, i < kd.length → ad i = b + i) : mv_Own l (mv_room 0) b ad D cA kd RJ9 (fun _ => none) (fun _ => none) (fun _ => none) (csJ9_min_7cf53 kd) := (mv_o0 (fun _ _ _ _ e => by cases e) (fun _ _ e => by cases e) (fun _ _ e => by cases e))
set_option maxRecDepth 100000 in
set_option maxHeartbeats 4000000 in
theorem ctJ9_min_7cf53 {l : Launch} {b : Nat} {ad : Nat → Nat} {D : va_G} {cA : Nat → ClassId} {kd : List (Nat × Nat)} (had : ∀ i, i < kd.length → ad i = b + i) : mv_Ct l b ad D cA kd yJ9_min_7cf53 cJ9_min_7cf53 2 (some .int) 0 (sJ9_min_7cf53 kd) := by
  refine mv_introF (rk := 1) tJ9_min_7cf53 pfJ9_min_7cf53 kJ9_min_7cf53 had ⟨(fun e => by cases e), (fun _ => rfl), (fun e => by cases e), (fun e => by cases e), (fun e => by cases e)⟩ (oJ9_min_7cf53 had) ?_
  intro h as hp
  obtain ⟨x0, x1, rfl, hq⟩ := ms_ii_inv hp
  refine ⟨Nat.le_of_ble_eq_true rfl, fun X hX => ?_⟩
  show X 0 [some (.int x0), some (.int x1)] [] h
  refine mv_go hX 20 ?_
  simp only [mv_wps, mv_exq, mv_exr, mv_exn, mv_xg, mv_xpi, mv_xpl, mv_xpr, mv_xc, mv_xc2, mv_xs, mv_9z, mv_cqs, mv_calls, mv_lgz, mv_stz, mv_kz, mv_cz, mv_fvs, mv_ats, mv_ics, mv_rz, mv_tz, mv_cns, mv_nfs, mv_fins, mv_det, mv_cc, mv_c0, Nat.reduceAdd, Nat.reduceEqDiff, Nat.reduceLT, Nat.reduceLeDiff, Nat.reduceSub, reduceIte, decide_false, decide_true, Bool.false_eq_true, List.map_cons, List.map_nil, List.sum_cons, List.sum_nil, true_and, and_true, true_or, or_true, false_or, or_false, false_and, and_false, true_implies, false_implies, implies_true, not_true_eq_false, not_false_eq_true, lg_cmp_ge, lg_cmp_le, lg_cmp_gt, lg_cmp_lt, lg_cmp_eq, qJ9_min_7cf53, csJ9_min_7cf53, sJ9_min_7cf53, ms_ii]
  constructor <;> intro hc <;> simp [jMinI, hc]
def csJ9_max_f86c9 (kd : List (Nat × Nat)) : mv_CS := mv_c0
theorem oJ9_max_f86c9 {l : Launch} {b : Nat} {ad : Nat → Nat} {D : va_G} {cA : Nat → ClassId} {kd : List (Nat × Nat)} (had : ∀ i, i < kd.length → ad i = b + i) : mv_Own l (mv_room 0) b ad D cA kd RJ9 (fun _ => none) (fun _ => none) (fun _ => none) (csJ9_max_f86c9 kd) := (mv_o0 (fun _ _ _ _ e => by cases e) (fun _ _ e => by cases e) (fun _ _ e => by cases e))
set_option maxRecDepth 100000 in
set_option maxHeartbeats 4000000 in
theorem ctJ9_max_f86c9 {l : Launch} {b : Nat} {ad : Nat → Nat} {D : va_G} {cA : Nat → ClassId} {kd : List (Nat × Nat)} (had : ∀ i, i < kd.length → ad i = b + i) : mv_Ct l b ad D cA kd yJ9_max_f86c9 cJ9_max_f86c9 4 (some .long) 0 (sJ9_max_f86c9 kd) := by
  refine mv_introF (rk := 3) tJ9_max_f86c9 pfJ9_max_f86c9 kJ9_max_f86c9 had ⟨(fun e => by cases e), (fun e => by cases e), (fun e => by cases e), (fun _ => rfl), (fun e => by cases e)⟩ (oJ9_max_f86c9 had) ?_
  intro h as hp
  obtain ⟨x0, x1, rfl, hq⟩ := ms_ll_inv hp
  refine ⟨Nat.le_of_ble_eq_true rfl, fun X hX => ?_⟩
  show X 0 [some (.long x0), none, some (.long x1), none] [] h
  refine mv_go hX 20 ?_
  simp only [mv_wps, mv_exq, mv_exr, mv_exn, mv_xg, mv_xpi, mv_xpl, mv_xpr, mv_xc, mv_xc2, mv_xs, mv_9z, mv_cqs, mv_calls, mv_lgz, mv_stz, mv_kz, mv_cz, mv_fvs, mv_ats, mv_ics, mv_rz, mv_tz, mv_cns, mv_nfs, mv_fins, mv_det, mv_cc, mv_c0, Nat.reduceAdd, Nat.reduceEqDiff, Nat.reduceLT, Nat.reduceLeDiff, Nat.reduceSub, reduceIte, decide_false, decide_true, Bool.false_eq_true, List.map_cons, List.map_nil, List.sum_cons, List.sum_nil, true_and, and_true, true_or, or_true, false_or, or_false, false_and, and_false, true_implies, false_implies, implies_true, not_true_eq_false, not_false_eq_true, lg_cmp_ge, lg_cmp_le, lg_cmp_gt, lg_cmp_lt, lg_cmp_eq, qJ9_max_f86c9, csJ9_max_f86c9, sJ9_max_f86c9, ms_ll]
  constructor <;> intro hc <;> simp [jMaxL, hc]
def csJ9_min_f86c9 (kd : List (Nat × Nat)) : mv_CS := mv_c0
theorem oJ9_min_f86c9 {l : Launch} {b : Nat} {ad : Nat → Nat} {D : va_G} {cA : Nat → ClassId} {kd : List (Nat × Nat)} (had : ∀ i, i < kd.length → ad i = b + i) : mv_Own l (mv_room 0) b ad D cA kd RJ9 (fun _ => none) (fun _ => none) (fun _ => none) (csJ9_min_f86c9 kd) := (mv_o0 (fun _ _ _ _ e => by cases e) (fun _ _ e => by cases e) (fun _ _ e => by cases e))
set_option maxRecDepth 100000 in
set_option maxHeartbeats 4000000 in
theorem ctJ9_min_f86c9 {l : Launch} {b : Nat} {ad : Nat → Nat} {D : va_G} {cA : Nat → ClassId} {kd : List (Nat × Nat)} (had : ∀ i, i < kd.length → ad i = b + i) : mv_Ct l b ad D cA kd yJ9_min_f86c9 cJ9_min_f86c9 4 (some .long) 0 (sJ9_min_f86c9 kd) := by
  refine mv_introF (rk := 3) tJ9_min_f86c9 pfJ9_min_f86c9 kJ9_min_f86c9 had ⟨(fun e => by cases e), (fun e => by cases e), (fun e => by cases e), (fun _ => rfl), (fun e => by cases e)⟩ (oJ9_min_f86c9 had) ?_
  intro h as hp
  obtain ⟨x0, x1, rfl, hq⟩ := ms_ll_inv hp
  refine ⟨Nat.le_of_ble_eq_true rfl, fun X hX => ?_⟩
  show X 0 [some (.long x0), none, some (.long x1), none] [] h
  refine mv_go hX 20 ?_
  simp only [mv_wps, mv_exq, mv_exr, mv_exn, mv_xg, mv_xpi, mv_xpl, mv_xpr, mv_xc, mv_xc2, mv_xs, mv_9z, mv_cqs, mv_calls, mv_lgz, mv_stz, mv_kz, mv_cz, mv_fvs, mv_ats, mv_ics, mv_rz, mv_tz, mv_cns, mv_nfs, mv_fins, mv_det, mv_cc, mv_c0, Nat.reduceAdd, Nat.reduceEqDiff, Nat.reduceLT, Nat.reduceLeDiff, Nat.reduceSub, reduceIte, decide_false, decide_true, Bool.false_eq_true, List.map_cons, List.map_nil, List.sum_cons, List.sum_nil, true_and, and_true, true_or, or_true, false_or, or_false, false_and, and_false, true_implies, false_implies, implies_true, not_true_eq_false, not_false_eq_true, lg_cmp_ge, lg_cmp_le, lg_cmp_gt, lg_cmp_lt, lg_cmp_eq, qJ9_min_f86c9, csJ9_min_f86c9, sJ9_min_f86c9, ms_ll]
  constructor <;> intro hc <;> simp [jMinL, hc]
def csJ13_compare_74951 (kd : List (Nat × Nat)) : mv_CS := mv_c0
theorem oJ13_compare_74951 {l : Launch} {b : Nat} {ad : Nat → Nat} {D : va_G} {cA : Nat → ClassId} {kd : List (Nat × Nat)} (had : ∀ i, i < kd.length → ad i = b + i) : mv_Own l (mv_room 0) b ad D cA kd RJ13 (fun _ => none) (fun _ => none) (fun _ => none) (csJ13_compare_74951 kd) := (mv_o0 (fun _ _ _ _ e => by cases e) (fun _ _ e => by cases e) (fun _ _ e => by cases e))
set_option maxRecDepth 100000 in
set_option maxHeartbeats 4000000 in
theorem ctJ13_compare_74951 {l : Launch} {b : Nat} {ad : Nat → Nat} {D : va_G} {cA : Nat → ClassId} {kd : List (Nat × Nat)} (had : ∀ i, i < kd.length → ad i = b + i) : mv_Ct l b ad D cA kd yJ13_compare_74951 cJ13_compare_74951 4 (some .int) 0 (sJ13_compare_74951 kd) := by
  refine mv_introF (rk := 1) tJ13_compare_74951 (mv_pf plRJ13) kJ13_compare_74951 had ⟨(fun e => by cases e), (fun _ => rfl), (fun e => by cases e), (fun e => by cases e), (fun e => by cases e)⟩ (oJ13_compare_74951 had) ?_
  intro h as hp
  obtain ⟨x0, x1, rfl, hq⟩ := ms_ll_inv hp
  refine ⟨Nat.le_of_ble_eq_true rfl, fun X hX => ?_⟩
  show X 0 [some (.long x0), none, some (.long x1), none] [] h
  refine mv_go hX 20 ?_
  simp only [mv_wps, mv_exq, mv_exr, mv_exn, mv_xg, mv_xpi, mv_xpl, mv_xpr, mv_xc, mv_xc2, mv_xs, mv_9z, mv_cqs, mv_calls, mv_lgz, mv_stz, mv_kz, mv_cz, mv_fvs, mv_ats, mv_ics, mv_rz, mv_tz, mv_cns, mv_nfs, mv_fins, mv_det, mv_cc, mv_c0, Nat.reduceAdd, Nat.reduceEqDiff, Nat.reduceLT, Nat.reduceLeDiff, Nat.reduceSub, reduceIte, decide_false, decide_true, Bool.false_eq_true, List.map_cons, List.map_nil, List.sum_cons, List.sum_nil, true_and, and_true, true_or, or_true, false_or, or_false, false_and, and_false, true_implies, false_implies, implies_true, not_true_eq_false, not_false_eq_true, lg_cmp_ge, lg_cmp_le, lg_cmp_gt, lg_cmp_lt, lg_cmp_eq, qJ13_compare_74951, csJ13_compare_74951, sJ13_compare_74951, ms_ll]
  refine ⟨fun hc => ⟨fun hd => ?_, fun hd => ?_⟩, fun hc => ?_⟩
  · simp [jCmp, hc, hd]
  · simp [jCmp, hc, hd]
  · simp [jCmp, hc]
def csJ9_floorDiv_f86c9 (kd : List (Nat × Nat)) : mv_CS := mv_c0
theorem oJ9_floorDiv_f86c9 {l : Launch} {b : Nat} {ad : Nat → Nat} {D : va_G} {cA : Nat → ClassId} {kd : List (Nat × Nat)} (had : ∀ i, i < kd.length → ad i = b + i) : mv_Own l (mv_room 0) b ad D cA kd RJ9 (fun _ => none) (fun _ => none) (fun _ => none) (csJ9_floorDiv_f86c9 kd) := (mv_o0 (fun _ _ _ _ e => by cases e) (fun _ _ e => by cases e) (fun _ _ e => by cases e))
set_option maxRecDepth 100000 in
set_option maxHeartbeats 4000000 in
theorem ctJ9_floorDiv_f86c9 {l : Launch} {b : Nat} {ad : Nat → Nat} {D : va_G} {cA : Nat → ClassId} {kd : List (Nat × Nat)} (had : ∀ i, i < kd.length → ad i = b + i) : mv_Ct l b ad D cA kd yJ9_floorDiv_f86c9 cJ9_floorDiv_f86c9 6 (some .long) 0 (sJ9_floorDiv_f86c9 kd) := by
  refine mv_introF (rk := 3) tJ9_floorDiv_f86c9 pfJ9_floorDiv_f86c9 kJ9_floorDiv_f86c9 had ⟨(fun e => by cases e), (fun e => by cases e), (fun e => by cases e), (fun _ => rfl), (fun e => by cases e)⟩ (oJ9_floorDiv_f86c9 had) ?_
  intro h as hp
  obtain ⟨x0, x1, rfl, hq⟩ := ms_ll_inv hp
  refine ⟨Nat.le_of_ble_eq_true rfl, fun X hX => ?_⟩
  show X 0 [some (.long x0), none, some (.long x1), none, none, none] [] h
  refine mv_go hX 30 ?_
  simp only [mv_wps, mv_exq, mv_exr, mv_exn, mv_xg, mv_xpi, mv_xpl, mv_xpr, mv_xc, mv_xc2, mv_xs, mv_9z, mv_cqs, mv_calls, mv_lgz, mv_stz, mv_kz, mv_cz, mv_fvs, mv_ats, mv_ics, mv_rz, mv_tz, mv_cns, mv_nfs, mv_fins, mv_det, mv_cc, mv_c0, Nat.reduceAdd, Nat.reduceEqDiff, Nat.reduceLT, Nat.reduceLeDiff, Nat.reduceSub, reduceIte, decide_false, decide_true, Bool.false_eq_true, List.map_cons, List.map_nil, List.sum_cons, List.sum_nil, true_and, and_true, true_or, or_true, false_or, or_false, false_and, and_false, true_implies, false_implies, implies_true, not_true_eq_false, not_false_eq_true, lg_cmp_ge, lg_cmp_le, lg_cmp_gt, lg_cmp_lt, lg_cmp_eq, qJ9_floorDiv_f86c9, csJ9_floorDiv_f86c9, sJ9_floorDiv_f86c9, ms_ll]
  refine ⟨hq, fun hc => ?_, fun hc => ⟨fun hd => ?_, fun hd => ?_⟩⟩
  · simp [jFd, hc]
  · simp [jFd, hc, hd]
  · simp [jFd, hc, hd]
def csJ9_floorMod_f86c9 (kd : List (Nat × Nat)) : mv_CS := mv_c0
theorem oJ9_floorMod_f86c9 {l : Launch} {b : Nat} {ad : Nat → Nat} {D : va_G} {cA : Nat → ClassId} {kd : List (Nat × Nat)} (had : ∀ i, i < kd.length → ad i = b + i) : mv_Own l (mv_room 0) b ad D cA kd RJ9 (fun _ => none) (fun _ => none) (fun _ => none) (csJ9_floorMod_f86c9 kd) := (mv_o0 (fun _ _ _ _ e => by cases e) (fun _ _ e => by cases e) (fun _ _ e => by cases e))
set_option maxRecDepth 100000 in
set_option maxHeartbeats 4000000 in
theorem ctJ9_floorMod_f86c9 {l : Launch} {b : Nat} {ad : Nat → Nat} {D : va_G} {cA : Nat → ClassId} {kd : List (Nat × Nat)} (had : ∀ i, i < kd.length → ad i = b + i) : mv_Ct l b ad D cA kd yJ9_floorMod_f86c9 cJ9_floorMod_f86c9 6 (some .long) 0 (sJ9_floorMod_f86c9 kd) := by
  refine mv_introF (rk := 3) tJ9_floorMod_f86c9 pfJ9_floorMod_f86c9 kJ9_floorMod_f86c9 had ⟨(fun e => by cases e), (fun e => by cases e), (fun e => by cases e), (fun _ => rfl), (fun e => by cases e)⟩ (oJ9_floorMod_f86c9 had) ?_
  intro h as hp
  obtain ⟨x0, x1, rfl, hq⟩ := ms_ll_inv hp
  refine ⟨Nat.le_of_ble_eq_true rfl, fun X hX => ?_⟩
  show X 0 [some (.long x0), none, some (.long x1), none, none, none] [] h
  refine mv_go hX 30 ?_
  simp only [mv_wps, mv_exq, mv_exr, mv_exn, mv_xg, mv_xpi, mv_xpl, mv_xpr, mv_xc, mv_xc2, mv_xs, mv_9z, mv_cqs, mv_calls, mv_lgz, mv_stz, mv_kz, mv_cz, mv_fvs, mv_ats, mv_ics, mv_rz, mv_tz, mv_cns, mv_nfs, mv_fins, mv_det, mv_cc, mv_c0, Nat.reduceAdd, Nat.reduceEqDiff, Nat.reduceLT, Nat.reduceLeDiff, Nat.reduceSub, reduceIte, decide_false, decide_true, Bool.false_eq_true, List.map_cons, List.map_nil, List.sum_cons, List.sum_nil, true_and, and_true, true_or, or_true, false_or, or_false, false_and, and_false, true_implies, false_implies, implies_true, not_true_eq_false, not_false_eq_true, lg_cmp_ge, lg_cmp_le, lg_cmp_gt, lg_cmp_lt, lg_cmp_eq, qJ9_floorMod_f86c9, csJ9_floorMod_f86c9, sJ9_floorMod_f86c9, ms_ll]
  refine ⟨hq, fun hc => ?_, fun hc => ⟨fun hd => ?_, fun hd => ?_⟩⟩
  · simp [jFm, hc]
  · simp [jFm, hc, hd]
  · simp [jFm, hc, hd]
