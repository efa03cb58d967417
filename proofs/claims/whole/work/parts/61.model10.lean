/-! The reference: primes, fractions compared, parts. -/
def prP (k : Nat) : Int64 := match k with
  | 0 => 2147483647
  | 1 => 2147483629
  | 2 => 2147483587
  | 3 => 2147483579
  | 4 => 2147483563
  | 5 => 2147483549
  | 6 => 2147483543
  | 7 => 2147483497
  | 8 => 2147483489
  | 9 => 2147483477
  | 10 => 2147483423
  | 11 => 2147483399
  | 12 => 2147483353
  | _ => 2147483323
def sX7_prime (_ : List (Nat × Nat)) : mv_S := ms_i (fun k _ => isN k 14) (fun k h v h' => v = some (.long (prP k.toNatClampNeg)) ∧ h' = h)
noncomputable def csX7_prime (kd : List (Nat × Nat)) : mv_CS := mv_c0
theorem oX7_prime {l : Launch} {b : Nat} {ad : Nat → Nat} {D : va_G} {cA : Nat → ClassId} {kd : List (Nat × Nat)} (had : ∀ i, i < kd.length → ad i = b + i) : mv_Own l (mv_room 0) b ad D cA kd RX7 flX7 cIX7 cLX7 (csX7_prime kd) := (mv_o0 flX7_ok cIX7_ok cLX7_ok)
set_option maxRecDepth 100000 in
set_option maxHeartbeats 4000000 in
theorem ctX7_prime {l : Launch} {b : Nat} {ad : Nat → Nat} {D : va_G} {cA : Nat → ClassId} {kd : List (Nat × Nat)} (had : ∀ i, i < kd.length → ad i = b + i) : mv_Ct l b ad D cA kd yX7_prime cX7_prime 1 (some .long) 0 (sX7_prime kd) := by
  refine mv_introF (rk := 3) tX7_prime (mv_pf plRX7) kX7_prime had ⟨(fun e => by cases e), (fun e => by cases e), (fun e => by cases e), (fun _ => rfl), (fun e => by cases e)⟩ (oX7_prime had) ?_
  intro h as hp
  obtain ⟨x0, rfl, hq⟩ := ms_i_inv hp
  refine ⟨Nat.le_of_ble_eq_true rfl, fun X hX => ?_⟩
  show X 0 [some (.int x0)] [] h
  obtain ⟨e1, h1⟩ := hq
  generalize hn : x0.toNatClampNeg = n at e1 h1
  subst e1
  refine mv_go hX 1 ?_
  simp only [mv_wps, mv_exq, mv_exr, mv_exn, mv_xg, mv_xpi, mv_xpl, mv_xpr, mv_xc, mv_xc2, mv_xs, mv_9z, mv_cqs, mv_calls, mv_lgz, mv_stz, mv_kz, mv_cz, mv_fvs, mv_ats, mv_ics, mv_rz, mv_tz, mv_cns, mv_nfs, mv_fins, mv_det, mv_cc, mv_c0, Nat.reduceAdd, Nat.reduceEqDiff, Nat.reduceLT, Nat.reduceLeDiff, Nat.reduceSub, reduceIte, decide_false, decide_true, Bool.false_eq_true, List.map_cons, List.map_nil, List.sum_cons, List.sum_nil, true_and, and_true, true_or, or_true, false_or, or_false, false_and, and_false, true_implies, false_implies, implies_true, not_true_eq_false, not_false_eq_true, lg_cmp_ge, lg_cmp_le, lg_cmp_gt, lg_cmp_lt, lg_cmp_eq, qX7_prime, flX7s, cIX7s, cLX7s, csX7_prime, sX7_prime, ms_i]
  have ht : (nI n).toInt = n := nI_toInt (by omega)
  refine ⟨fun j off hj e hle => ?_, fun ho => ?_, by decide⟩
  · rw [ht] at e
    obtain rfl : n = j := by omega
    rcases n with _ | _ | _ | _ | _ | _ | _ | _ | _ | _ | _ | _ | _ | n
    · obtain rfl : off = 67 := by simpa using hj.symm
      show X 68 [some (.int (nI 0))] [] h
      refine mv_go hX 20 ?_
      simp only [mv_wps, mv_exq, mv_exr, mv_exn, mv_xg, mv_xpi, mv_xpl, mv_xpr, mv_xc, mv_xc2, mv_xs, mv_9z, mv_cqs, mv_calls, mv_lgz, mv_stz, mv_kz, mv_cz, mv_fvs, mv_ats, mv_ics, mv_rz, mv_tz, mv_cns, mv_nfs, mv_fins, mv_det, mv_cc, mv_c0, Nat.reduceAdd, Nat.reduceEqDiff, Nat.reduceLT, Nat.reduceLeDiff, Nat.reduceSub, reduceIte, decide_false, decide_true, Bool.false_eq_true, List.map_cons, List.map_nil, List.sum_cons, List.sum_nil, true_and, and_true, true_or, or_true, false_or, or_false, false_and, and_false, true_implies, false_implies, implies_true, not_true_eq_false, not_false_eq_true, lg_cmp_ge, lg_cmp_le, lg_cmp_gt, lg_cmp_lt, lg_cmp_eq, qX7_prime, flX7s, cIX7s, cLX7s, csX7_prime, sX7_prime, ms_i]
      rw [hn]
      rfl
    · obtain rfl : off = 71 := by simpa using hj.symm
      show X 72 [some (.int (nI 1))] [] h
      refine mv_go hX 20 ?_
      simp only [mv_wps, mv_exq, mv_exr, mv_exn, mv_xg, mv_xpi, mv_xpl, mv_xpr, mv_xc, mv_xc2, mv_xs, mv_9z, mv_cqs, mv_calls, mv_lgz, mv_stz, mv_kz, mv_cz, mv_fvs, mv_ats, mv_ics, mv_rz, mv_tz, mv_cns, mv_nfs, mv_fins, mv_det, mv_cc, mv_c0, Nat.reduceAdd, Nat.reduceEqDiff, Nat.reduceLT, Nat.reduceLeDiff, Nat.reduceSub, reduceIte, decide_false, decide_true, Bool.false_eq_true, List.map_cons, List.map_nil, List.sum_cons, List.sum_nil, true_and, and_true, true_or, or_true, false_or, or_false, false_and, and_false, true_implies, false_implies, implies_true, not_true_eq_false, not_false_eq_true, lg_cmp_ge, lg_cmp_le, lg_cmp_gt, lg_cmp_lt, lg_cmp_eq, qX7_prime, flX7s, cIX7s, cLX7s, csX7_prime, sX7_prime, ms_i]
      rw [hn]
      rfl
    · obtain rfl : off = 75 := by simpa using hj.symm
      show X 76 [some (.int (nI 2))] [] h
      refine mv_go hX 20 ?_
      simp only [mv_wps, mv_exq, mv_exr, mv_exn, mv_xg, mv_xpi, mv_xpl, mv_xpr, mv_xc, mv_xc2, mv_xs, mv_9z, mv_cqs, mv_calls, mv_lgz, mv_stz, mv_kz, mv_cz, mv_fvs, mv_ats, mv_ics, mv_rz, mv_tz, mv_cns, mv_nfs, mv_fins, mv_det, mv_cc, mv_c0, Nat.reduceAdd, Nat.reduceEqDiff, Nat.reduceLT, Nat.reduceLeDiff, Nat.reduceSub, reduceIte, decide_false, decide_true, Bool.false_eq_true, List.map_cons, List.map_nil, List.sum_cons, List.sum_nil, true_and, and_true, true_or, or_true, false_or, or_false, false_and, and_false, true_implies, false_implies, implies_true, not_true_eq_false, not_false_eq_true, lg_cmp_ge, lg_cmp_le, lg_cmp_gt, lg_cmp_lt, lg_cmp_eq, qX7_prime, flX7s, cIX7s, cLX7s, csX7_prime, sX7_prime, ms_i]
      rw [hn]
      rfl
    · obtain rfl : off = 79 := by simpa using hj.symm
      show X 80 [some (.int (nI 3))] [] h
      refine mv_go hX 20 ?_
      simp only [mv_wps, mv_exq, mv_exr, mv_exn, mv_xg, mv_xpi, mv_xpl, mv_xpr, mv_xc, mv_xc2, mv_xs, mv_9z, mv_cqs, mv_calls, mv_lgz, mv_stz, mv_kz, mv_cz, mv_fvs, mv_ats, mv_ics, mv_rz, mv_tz, mv_cns, mv_nfs, mv_fins, mv_det, mv_cc, mv_c0, Nat.reduceAdd, Nat.reduceEqDiff, Nat.reduceLT, Nat.reduceLeDiff, Nat.reduceSub, reduceIte, decide_false, decide_true, Bool.false_eq_true, List.map_cons, List.map_nil, List.sum_cons, List.sum_nil, true_and, and_true, true_or, or_true, false_or, or_false, false_and, and_false, true_implies, false_implies, implies_true, not_true_eq_false, not_false_eq_true, lg_cmp_ge, lg_cmp_le, lg_cmp_gt, lg_cmp_lt, lg_cmp_eq, qX7_prime, flX7s, cIX7s, cLX7s, csX7_prime, sX7_prime, ms_i]
      rw [hn]
      rfl
    · obtain rfl : off = 83 := by simpa using hj.symm
      show X 84 [some (.int (nI 4))] [] h
      refine mv_go hX 20 ?_
      simp only [mv_wps, mv_exq, mv_exr, mv_exn, mv_xg, mv_xpi, mv_xpl, mv_xpr, mv_xc, mv_xc2, mv_xs, mv_9z, mv_cqs, mv_calls, mv_lgz, mv_stz, mv_kz, mv_cz, mv_fvs, mv_ats, mv_ics, mv_rz, mv_tz, mv_cns, mv_nfs, mv_fins, mv_det, mv_cc, mv_c0, Nat.reduceAdd, Nat.reduceEqDiff, Nat.reduceLT, Nat.reduceLeDiff, Nat.reduceSub, reduceIte, decide_false, decide_true, Bool.false_eq_true, List.map_cons, List.map_nil, List.sum_cons, List.sum_nil, true_and, and_true, true_or, or_true, false_or, or_false, false_and, and_false, true_implies, false_implies, implies_true, not_true_eq_false, not_false_eq_true, lg_cmp_ge, lg_cmp_le, lg_cmp_gt, lg_cmp_lt, lg_cmp_eq, qX7_prime, flX7s, cIX7s, cLX7s, csX7_prime, sX7_prime, ms_i]
      rw [hn]
      rfl
    · obtain rfl : off = 87 := by simpa using hj.symm
      show X 88 [some (.int (nI 5))] [] h
      refine mv_go hX 20 ?_
      simp only [mv_wps, mv_exq, mv_exr, mv_exn, mv_xg, mv_xpi, mv_xpl, mv_xpr, mv_xc, mv_xc2, mv_xs, mv_9z, mv_cqs, mv_calls, mv_lgz, mv_stz, mv_kz, mv_cz, mv_fvs, mv_ats, mv_ics, mv_rz, mv_tz, mv_cns, mv_nfs, mv_fins, mv_det, mv_cc, mv_c0, Nat.reduceAdd, Nat.reduceEqDiff, Nat.reduceLT, Nat.reduceLeDiff, Nat.reduceSub, reduceIte, decide_false, decide_true, Bool.false_eq_true, List.map_cons, List.map_nil, List.sum_cons, List.sum_nil, true_and, and_true, true_or, or_true, false_or, or_false, false_and, and_false, true_implies, false_implies, implies_true, not_true_eq_false, not_false_eq_true, lg_cmp_ge, lg_cmp_le, lg_cmp_gt, lg_cmp_lt, lg_cmp_eq, qX7_prime, flX7s, cIX7s, cLX7s, csX7_prime, sX7_prime, ms_i]
      rw [hn]
      rfl
    · obtain rfl : off = 91 := by simpa using hj.symm
      show X 92 [some (.int (nI 6))] [] h
      refine mv_go hX 20 ?_
      simp only [mv_wps, mv_exq, mv_exr, mv_exn, mv_xg, mv_xpi, mv_xpl, mv_xpr, mv_xc, mv_xc2, mv_xs, mv_9z, mv_cqs, mv_calls, mv_lgz, mv_stz, mv_kz, mv_cz, mv_fvs, mv_ats, mv_ics, mv_rz, mv_tz, mv_cns, mv_nfs, mv_fins, mv_det, mv_cc, mv_c0, Nat.reduceAdd, Nat.reduceEqDiff, Nat.reduceLT, Nat.reduceLeDiff, Nat.reduceSub, reduceIte, decide_false, decide_true, Bool.false_eq_true, List.map_cons, List.map_nil, List.sum_cons, List.sum_nil, true_and, and_true, true_or, or_true, false_or, or_false, false_and, and_false, true_implies, false_implies, implies_true, not_true_eq_false, not_false_eq_true, lg_cmp_ge, lg_cmp_le, lg_cmp_gt, lg_cmp_lt, lg_cmp_eq, qX7_prime, flX7s, cIX7s, cLX7s, csX7_prime, sX7_prime, ms_i]
      rw [hn]
      rfl
    · obtain rfl : off = 95 := by simpa using hj.symm
      show X 96 [some (.int (nI 7))] [] h
      refine mv_go hX 20 ?_
      simp only [mv_wps, mv_exq, mv_exr, mv_exn, mv_xg, mv_xpi, mv_xpl, mv_xpr, mv_xc, mv_xc2, mv_xs, mv_9z, mv_cqs, mv_calls, mv_lgz, mv_stz, mv_kz, mv_cz, mv_fvs, mv_ats, mv_ics, mv_rz, mv_tz, mv_cns, mv_nfs, mv_fins, mv_det, mv_cc, mv_c0, Nat.reduceAdd, Nat.reduceEqDiff, Nat.reduceLT, Nat.reduceLeDiff, Nat.reduceSub, reduceIte, decide_false, decide_true, Bool.false_eq_true, List.map_cons, List.map_nil, List.sum_cons, List.sum_nil, true_and, and_true, true_or, or_true, false_or, or_false, false_and, and_false, true_implies, false_implies, implies_true, not_true_eq_false, not_false_eq_true, lg_cmp_ge, lg_cmp_le, lg_cmp_gt, lg_cmp_lt, lg_cmp_eq, qX7_prime, flX7s, cIX7s, cLX7s, csX7_prime, sX7_prime, ms_i]
      rw [hn]
      rfl
    · obtain rfl : off = 99 := by simpa using hj.symm
      show X 100 [some (.int (nI 8))] [] h
      refine mv_go hX 20 ?_
      simp only [mv_wps, mv_exq, mv_exr, mv_exn, mv_xg, mv_xpi, mv_xpl, mv_xpr, mv_xc, mv_xc2, mv_xs, mv_9z, mv_cqs, mv_calls, mv_lgz, mv_stz, mv_kz, mv_cz, mv_fvs, mv_ats, mv_ics, mv_rz, mv_tz, mv_cns, mv_nfs, mv_fins, mv_det, mv_cc, mv_c0, Nat.reduceAdd, Nat.reduceEqDiff, Nat.reduceLT, Nat.reduceLeDiff, Nat.reduceSub, reduceIte, decide_false, decide_true, Bool.false_eq_true, List.map_cons, List.map_nil, List.sum_cons, List.sum_nil, true_and, and_true, true_or, or_true, false_or, or_false, false_and, and_false, true_implies, false_implies, implies_true, not_true_eq_false, not_false_eq_true, lg_cmp_ge, lg_cmp_le, lg_cmp_gt, lg_cmp_lt, lg_cmp_eq, qX7_prime, flX7s, cIX7s, cLX7s, csX7_prime, sX7_prime, ms_i]
      rw [hn]
      rfl
    · obtain rfl : off = 103 := by simpa using hj.symm
      show X 104 [some (.int (nI 9))] [] h
      refine mv_go hX 20 ?_
      simp only [mv_wps, mv_exq, mv_exr, mv_exn, mv_xg, mv_xpi, mv_xpl, mv_xpr, mv_xc, mv_xc2, mv_xs, mv_9z, mv_cqs, mv_calls, mv_lgz, mv_stz, mv_kz, mv_cz, mv_fvs, mv_ats, mv_ics, mv_rz, mv_tz, mv_cns, mv_nfs, mv_fins, mv_det, mv_cc, mv_c0, Nat.reduceAdd, Nat.reduceEqDiff, Nat.reduceLT, Nat.reduceLeDiff, Nat.reduceSub, reduceIte, decide_false, decide_true, Bool.false_eq_true, List.map_cons, List.map_nil, List.sum_cons, List.sum_nil, true_and, and_true, true_or, or_true, false_or, or_false, false_and, and_false, true_implies, false_implies, implies_true, not_true_eq_false, not_false_eq_true, lg_cmp_ge, lg_cmp_le, lg_cmp_gt, lg_cmp_lt, lg_cmp_eq, qX7_prime, flX7s, cIX7s, cLX7s, csX7_prime, sX7_prime, ms_i]
      rw [hn]
      rfl
    · obtain rfl : off = 107 := by simpa using hj.symm
      show X 108 [some (.int (nI 10))] [] h
      refine mv_go hX 20 ?_
      simp only [mv_wps, mv_exq, mv_exr, mv_exn, mv_xg, mv_xpi, mv_xpl, mv_xpr, mv_xc, mv_xc2, mv_xs, mv_9z, mv_cqs, mv_calls, mv_lgz, mv_stz, mv_kz, mv_cz, mv_fvs, mv_ats, mv_ics, mv_rz, mv_tz, mv_cns, mv_nfs, mv_fins, mv_det, mv_cc, mv_c0, Nat.reduceAdd, Nat.reduceEqDiff, Nat.reduceLT, Nat.reduceLeDiff, Nat.reduceSub, reduceIte, decide_false, decide_true, Bool.false_eq_true, List.map_cons, List.map_nil, List.sum_cons, List.sum_nil, true_and, and_true, true_or, or_true, false_or, or_false, false_and, and_false, true_implies, false_implies, implies_true, not_true_eq_false, not_false_eq_true, lg_cmp_ge, lg_cmp_le, lg_cmp_gt, lg_cmp_lt, lg_cmp_eq, qX7_prime, flX7s, cIX7s, cLX7s, csX7_prime, sX7_prime, ms_i]
      rw [hn]
      rfl
    · obtain rfl : off = 111 := by simpa using hj.symm
      show X 112 [some (.int (nI 11))] [] h
      refine mv_go hX 20 ?_
      simp only [mv_wps, mv_exq, mv_exr, mv_exn, mv_xg, mv_xpi, mv_xpl, mv_xpr, mv_xc, mv_xc2, mv_xs, mv_9z, mv_cqs, mv_calls, mv_lgz, mv_stz, mv_kz, mv_cz, mv_fvs, mv_ats, mv_ics, mv_rz, mv_tz, mv_cns, mv_nfs, mv_fins, mv_det, mv_cc, mv_c0, Nat.reduceAdd, Nat.reduceEqDiff, Nat.reduceLT, Nat.reduceLeDiff, Nat.reduceSub, reduceIte, decide_false, decide_true, Bool.false_eq_true, List.map_cons, List.map_nil, List.sum_cons, List.sum_nil, true_and, and_true, true_or, or_true, false_or, or_false, false_and, and_false, true_implies, false_implies, implies_true, not_true_eq_false, not_false_eq_true, lg_cmp_ge, lg_cmp_le, lg_cmp_gt, lg_cmp_lt, lg_cmp_eq, qX7_prime, flX7s, cIX7s, cLX7s, csX7_prime, sX7_prime, ms_i]
      rw [hn]
      rfl
    · obtain rfl : off = 115 := by simpa using hj.symm
      show X 116 [some (.int (nI 12))] [] h
      refine mv_go hX 20 ?_
      simp only [mv_wps, mv_exq, mv_exr, mv_exn, mv_xg, mv_xpi, mv_xpl, mv_xpr, mv_xc, mv_xc2, mv_xs, mv_9z, mv_cqs, mv_calls, mv_lgz, mv_stz, mv_kz, mv_cz, mv_fvs, mv_ats, mv_ics, mv_rz, mv_tz, mv_cns, mv_nfs, mv_fins, mv_det, mv_cc, mv_c0, Nat.reduceAdd, Nat.reduceEqDiff, Nat.reduceLT, Nat.reduceLeDiff, Nat.reduceSub, reduceIte, decide_false, decide_true, Bool.false_eq_true, List.map_cons, List.map_nil, List.sum_cons, List.sum_nil, true_and, and_true, true_or, or_true, false_or, or_false, false_and, and_false, true_implies, false_implies, implies_true, not_true_eq_false, not_false_eq_true, lg_cmp_ge, lg_cmp_le, lg_cmp_gt, lg_cmp_lt, lg_cmp_eq, qX7_prime, flX7s, cIX7s, cLX7s, csX7_prime, sX7_prime, ms_i]
      rw [hn]
      rfl
    · exact absurd hle (by rw [ht]; omega)
  · rw [ht] at ho
    obtain rfl : n = 13 := by omega
    refine mv_go hX 20 ?_
    simp only [mv_wps, mv_exq, mv_exr, mv_exn, mv_xg, mv_xpi, mv_xpl, mv_xpr, mv_xc, mv_xc2, mv_xs, mv_9z, mv_cqs, mv_calls, mv_lgz, mv_stz, mv_kz, mv_cz, mv_fvs, mv_ats, mv_ics, mv_rz, mv_tz, mv_cns, mv_nfs, mv_fins, mv_det, mv_cc, mv_c0, Nat.reduceAdd, Nat.reduceEqDiff, Nat.reduceLT, Nat.reduceLeDiff, Nat.reduceSub, reduceIte, decide_false, decide_true, Bool.false_eq_true, List.map_cons, List.map_nil, List.sum_cons, List.sum_nil, true_and, and_true, true_or, or_true, false_or, or_false, false_and, and_false, true_implies, false_implies, implies_true, not_true_eq_false, not_false_eq_true, lg_cmp_ge, lg_cmp_le, lg_cmp_gt, lg_cmp_lt, lg_cmp_eq, qX7_prime, flX7s, cIX7s, cLX7s, csX7_prime, sX7_prime, ms_i]
    rw [hn]
    rfl
def cmF : Nat → Int32 → Int64 → Int64 → Int64 → Int64 → Int32
  | 0, _, _, _, _, _ => 0
  | n + 1, s, a, b, c, d => if a / b = c / d then (if lrm a b = 0 ∨ lrm c d = 0 then (if lrm a b = lrm c d then 0 else if lrm a b = 0 then -s else s) else cmF n (-s) b (lrm a b) d (lrm c d)) else if c / d < a / b then s else -s
def sX7_compare (_ : List (Nat × Nat)) : mv_S := ms_llll (fun a b c d _ => 0 ≤ a.toInt ∧ 0 < b.toInt ∧ 0 ≤ c.toInt ∧ 0 < d.toInt) (fun a b c d h v h' => v = some (.int (cmF (b.toInt.toNat + 1) 1 a b c d)) ∧ h' = h)
theorem i64_ne0 {b : Int64} (h : 0 < b.toInt) : ¬ b = 0 := fun e => by
  rw [e] at h
  exact absurd h (by decide)
noncomputable def csX7_compare (kd : List (Nat × Nat)) : mv_CS := mv_c0
theorem oX7_compare {l : Launch} {b : Nat} {ad : Nat → Nat} {D : va_G} {cA : Nat → ClassId} {kd : List (Nat × Nat)} (had : ∀ i, i < kd.length → ad i = b + i) : mv_Own l (mv_room 0) b ad D cA kd RX7 flX7 cIX7 cLX7 (csX7_compare kd) := (mv_o0 flX7_ok cIX7_ok cLX7_ok)
set_option maxRecDepth 100000 in
set_option maxHeartbeats 4000000 in
theorem ctX7_compare {l : Launch} {b : Nat} {ad : Nat → Nat} {D : va_G} {cA : Nat → ClassId} {kd : List (Nat × Nat)} (had : ∀ i, i < kd.length → ad i = b + i) : mv_Ct l b ad D cA kd yX7_compare cX7_compare 21 (some .int) 0 (sX7_compare kd) := by
  refine mv_introF (rk := 1) tX7_compare (mv_pf plRX7) kX7_compare had ⟨(fun e => by cases e), (fun _ => rfl), (fun e => by cases e), (fun e => by cases e), (fun e => by cases e)⟩ (oX7_compare had) ?_
  intro h as hp
  obtain ⟨x0, x1, x2, x3, rfl, hq⟩ := ms_llll_inv hp
  refine ⟨Nat.le_of_ble_eq_true rfl, fun X hX => ?_⟩
  show X 0 [some (.long x0), none, some (.long x1), none, some (.long x2), none, some (.long x3), none, none, none, none, none, none, none, none, none, none, none, none, none, none] [] h
  have loop : ∀ (n : Nat) s a b c d, 0 ≤ a.toInt → 0 < b.toInt → 0 ≤ c.toInt → 0 < d.toInt → b.toInt < (n : Int) → cmF n s a b c d = cmF (x1.toInt.toNat + 1) 1 x0 x1 x2 x3 → ∀ o o' o'' o''', X 17 [some (.long x0), none, some (.long x1), none, some (.long x2), none, some (.long x3), none, some (.long a), none, some (.long b), none, some (.long c), none, some (.long d), none, some (.int s), o, o', o'', o'''] [] h := by
    intro n
    induction n with
    | zero => intro s a b c d h1 h2 h3 h4 h5; omega
    | succ n ihn =>
      intro s a b c d h1 h2 h3 h4 h5 he o o' o'' o'''
      have nb := i64_ne0 h2
      have nd := i64_ne0 h4
      have rb := i64_rem h1 h2
      have rd := i64_rem h3 h4
      have l1 : lrm a b = a - a / b * b := rfl
      have l2 : lrm c d = c - c / d * d := rfl
      rw [← l1] at rb
      rw [← l2] at rd
      rw [cmF] at he
      refine mv_go hX 80 ?_
      simp only [mv_wps, mv_exq, mv_exr, mv_exn, mv_xg, mv_xpi, mv_xpl, mv_xpr, mv_xc, mv_xc2, mv_xs, mv_9z, mv_cqs, mv_calls, mv_lgz, mv_stz, mv_kz, mv_cz, mv_fvs, mv_ats, mv_ics, mv_rz, mv_tz, mv_cns, mv_nfs, mv_fins, mv_det, mv_cc, mv_c0, Nat.reduceAdd, Nat.reduceEqDiff, Nat.reduceLT, Nat.reduceLeDiff, Nat.reduceSub, reduceIte, decide_false, decide_true, Bool.false_eq_true, List.map_cons, List.map_nil, List.sum_cons, List.sum_nil, true_and, and_true, true_or, or_true, false_or, or_false, false_and, and_false, true_implies, false_implies, implies_true, not_true_eq_false, not_false_eq_true, lg_cmp_ge, lg_cmp_le, lg_cmp_gt, lg_cmp_lt, lg_cmp_eq, qX7_compare, flX7s, cIX7s, cLX7s, csX7_compare, sX7_compare, ms_llll, nb, nd, ← l1, ← l2, Classical.not_not]
      refine ⟨fun hy => ?_, fun hy => ?_⟩
      · rw [if_neg hy] at he
        refine ⟨fun hz => ?_, fun hz => ?_⟩
        · rw [if_neg (Int64.not_lt.mpr hz)] at he
          rw [he]
        · rw [if_pos (Int64.not_le.mp hz)] at he
          rw [he]
      · rw [if_pos hy] at he
        refine ⟨fun hz => ?_, fun hz => ⟨fun hw => ?_, fun hw => ?_⟩⟩
        · rw [if_pos (Or.inl hz)] at he
          refine ⟨fun hx => ⟨fun hu => absurd hz hu, fun hu => ?_⟩, fun hx => ?_⟩
          · rw [if_neg hx, if_pos hz] at he
            rw [he]
          · rw [if_pos hx] at he
            rw [he]
        · rw [if_neg (fun z => z.elim hz hw)] at he
          have p1 : 0 < (lrm a b).toInt := by
            have q1 := Int.emod_nonneg a.toInt (show b.toInt ≠ 0 by omega)
            have q2 : (lrm a b).toInt ≠ 0 := fun z => hz (by rw [i64_eq, z]; decide)
            omega
          have p2 : 0 < (lrm c d).toInt := by
            have q1 := Int.emod_nonneg c.toInt (show d.toInt ≠ 0 by omega)
            have q2 : (lrm c d).toInt ≠ 0 := fun z => hw (by rw [i64_eq, z]; decide)
            omega
          have p3 := Int.emod_lt_of_pos a.toInt h2
          exact ihn _ _ _ _ _ (by omega) p1 (by omega) p2 (by omega) he _ _ _ _
        · rw [if_pos (Or.inr hw)] at he
          refine ⟨fun hx => ?_, fun hx => ?_⟩
          · rw [if_neg hx, if_neg hz] at he
            exact ⟨fun _ => by rw [he], fun z => absurd z hz⟩
          · rw [if_pos hx] at he
            rw [he]
  obtain ⟨h1, h2, h3, h4⟩ := hq
  refine mv_go hX 60 ?_
  simp only [mv_wps, mv_exq, mv_exr, mv_exn, mv_xg, mv_xpi, mv_xpl, mv_xpr, mv_xc, mv_xc2, mv_xs, mv_9z, mv_cqs, mv_calls, mv_lgz, mv_stz, mv_kz, mv_cz, mv_fvs, mv_ats, mv_ics, mv_rz, mv_tz, mv_cns, mv_nfs, mv_fins, mv_det, mv_cc, mv_c0, Nat.reduceAdd, Nat.reduceEqDiff, Nat.reduceLT, Nat.reduceLeDiff, Nat.reduceSub, reduceIte, decide_false, decide_true, Bool.false_eq_true, List.map_cons, List.map_nil, List.sum_cons, List.sum_nil, true_and, and_true, true_or, or_true, false_or, or_false, false_and, and_false, true_implies, false_implies, implies_true, not_true_eq_false, not_false_eq_true, lg_cmp_ge, lg_cmp_le, lg_cmp_gt, lg_cmp_lt, lg_cmp_eq, qX7_compare, flX7s, cIX7s, cLX7s, csX7_compare, sX7_compare, ms_llll]
  exact loop _ 1 x0 x1 x2 x3 h1 h2 h3 h4 (by omega) rfl _ _ _ _
/-! g times c by w, bit by bit -/
def sX7_part (_ : List (Nat × Nat)) : mv_S := ms_lll (fun g c w _ => 0 ≤ g.toInt ∧ 0 ≤ c.toInt ∧ 0 < w.toInt ∧ w.toInt < 2 ^ 60 ∧ g.toInt * c.toInt / w.toInt ≤ 1000000000000000000) (fun g c w h v h' => (∃ z, v = some (.long z) ∧ z.toInt = g.toInt * c.toInt / w.toInt) ∧ h' = h)
noncomputable def csX7_part (kd : List (Nat × Nat)) : mv_CS := mv_c0
theorem oX7_part {l : Launch} {b : Nat} {ad : Nat → Nat} {D : va_G} {cA : Nat → ClassId} {kd : List (Nat × Nat)} (had : ∀ i, i < kd.length → ad i = b + i) : mv_Own l (mv_room 0) b ad D cA kd RX7 flX7 cIX7 cLX7 (csX7_part kd) := (mv_o0 flX7_ok cIX7_ok cLX7_ok)
set_option maxRecDepth 100000 in
set_option maxHeartbeats 4000000 in
theorem ctX7_part {l : Launch} {b : Nat} {ad : Nat → Nat} {D : va_G} {cA : Nat → ClassId} {kd : List (Nat × Nat)} (had : ∀ i, i < kd.length → ad i = b + i) : mv_Ct l b ad D cA kd yX7_part cX7_part 11 (some .long) 0 (sX7_part kd) := by
  refine mv_introF (rk := 3) tX7_part (mv_pf plRX7) kX7_part had ⟨(fun e => by cases e), (fun e => by cases e), (fun e => by cases e), (fun _ => rfl), (fun e => by cases e)⟩ (oX7_part had) ?_
  intro h as hp
  obtain ⟨x0, x1, x2, rfl, hq⟩ := ms_lll_inv hp
  refine ⟨Nat.le_of_ble_eq_true rfl, fun X hX => ?_⟩
  show X 0 [some (.long x0), none, some (.long x1), none, some (.long x2), none, none, none, none, none, none] [] h
  obtain ⟨hg, hc, hw, hw2, hb⟩ := hq
  have nw := i64_ne0 hw
  have dw := i64_div hc hw
  have rw' := i64_rem hc hw
  have hcw := Int.emod_add_mul_ediv x1.toInt x2.toInt
  have hr0 := Int.emod_nonneg x1.toInt (show x2.toInt ≠ 0 by omega)
  have hr1 := Int.emod_lt_of_pos x1.toInt hw
  have hd0 : 0 ≤ x1.toInt / x2.toInt := Int.ediv_nonneg hc (by omega)
  have two : (2 : Int64).toInt = 2 := by decide
  have one : (1 : Int64).toInt = 1 := by decide
  have big : (1000000000000000000 : Int64).toInt = 1000000000000000000 := by decide
  have qb : ∀ (Q R P : Int), Q * x2.toInt + R = P → 0 ≤ R → P ≤ x0.toInt * x1.toInt → Q ≤ 1000000000000000000 := fun Q R P h1 h2 h3 => by
    have : Q ≤ x0.toInt * x1.toInt / x2.toInt := Int.le_ediv_of_mul_le hw (by omega)
    omega
  have gm : ∀ k : Nat, 0 ≤ x0.toInt / 2 ^ k ∧ x0.toInt / 2 ^ k * x1.toInt ≤ x0.toInt * x1.toInt := fun k => by
    have h1 : 0 ≤ x0.toInt / 2 ^ k := Int.ediv_nonneg hg (Int.pow_nonneg (by omega))
    exact ⟨h1, Int.mul_le_mul_of_nonneg_right (Int.ediv_le_self _ hg) hc⟩
  have loop : ∀ b, b ≤ 63 → ∀ q r : Int64, q.toInt * x2.toInt + r.toInt = x0.toInt / 2 ^ b * x1.toInt → 0 ≤ q.toInt → 0 ≤ r.toInt → r.toInt < x2.toInt → X 10 [some (.long x0), none, some (.long x1), none, some (.long x2), none, some (.long q), none, some (.long r), none, some (.int (nI b - 1))] [] h := by
    intro b
    induction b with
    | zero =>
      intro hb0 q r he hq0 hr2 hr3
      have hneg : nI 0 - 1 < 0 := by decide
      refine mv_go hX 60 ?_
      simp only [mv_wps, mv_exq, mv_exr, mv_exn, mv_xg, mv_xpi, mv_xpl, mv_xpr, mv_xc, mv_xc2, mv_xs, mv_9z, mv_cqs, mv_calls, mv_lgz, mv_stz, mv_kz, mv_cz, mv_fvs, mv_ats, mv_ics, mv_rz, mv_tz, mv_cns, mv_nfs, mv_fins, mv_det, mv_cc, mv_c0, Nat.reduceAdd, Nat.reduceEqDiff, Nat.reduceLT, Nat.reduceLeDiff, Nat.reduceSub, reduceIte, decide_false, decide_true, Bool.false_eq_true, List.map_cons, List.map_nil, List.sum_cons, List.sum_nil, true_and, and_true, true_or, or_true, false_or, or_false, false_and, and_false, true_implies, false_implies, implies_true, not_true_eq_false, not_false_eq_true, lg_cmp_ge, lg_cmp_le, lg_cmp_gt, lg_cmp_lt, lg_cmp_eq, qX7_part, flX7s, cIX7s, cLX7s, csX7_part, sX7_part, ms_lll, hneg]
      refine ⟨q, rfl, ?_⟩
      rw [Int.pow_zero, Int.ediv_one] at he
      have := (Int.ediv_emod_unique (a := x0.toInt * x1.toInt) (q := q.toInt) (r := r.toInt) hw).mpr ⟨by rw [Int.mul_comm x2.toInt]; omega, hr2, hr3⟩
      exact this.1.symm
    | succ b ihb =>
      intro hb0 q r he hq0 hr2 hr3
      have e : nI (b + 1) - 1 = nI b := by rw [nI_pred1 (by omega)]; rfl
      have hp : ¬ nI b < 0 := nI_pos (by omega)
      rw [e]
      obtain ⟨g1, g2⟩ := gm b
      obtain ⟨g3, g4⟩ := gm (b + 1)
      have hq1 := qb _ _ _ he hr2 g4
      have hhalf : x0.toInt / 2 ^ (b + 1) = x0.toInt / 2 ^ b / 2 := by
        rw [Int.pow_succ, Int.ediv_ediv_of_nonneg (Int.pow_nonneg (by omega))]
      have sh0 := i64_shr x0 (k := b) (by omega)
      have sh1 : (x0 >>> ((nI b).toInt64 &&& 63) &&& 1).toInt = x0.toInt / 2 ^ b % 2 := by
        rw [i64_and1 (by rw [sh0]; exact g1), sh0]
      have q2 : (2 * q).toInt = 2 * q.toInt := by rw [i64_mul (by rw [two]; omega) (by rw [two]; omega), two]
      have r2 : (2 * r).toInt = 2 * r.toInt := by rw [i64_mul (by rw [two]; omega) (by rw [two]; omega), two]
      have fin : ∀ j : Nat, j ≤ 2 → ∀ q r : Int64, q.toInt * x2.toInt + r.toInt = x0.toInt / 2 ^ b * x1.toInt → 0 ≤ q.toInt → 0 ≤ r.toInt → r.toInt < (j + 1) * x2.toInt → X 60 [some (.long x0), none, some (.long x1), none, some (.long x2), none, some (.long q), none, some (.long r), none, some (.int (nI b))] [] h := by
        intro j
        induction j with
        | zero =>
          intro hj q r he hq0 hr2 hr3
          have hlt : ¬ x2 ≤ r := by rw [i64_le]; omega
          have hlt' : r < x2 := Int64.not_le.mp hlt
          have hqq := qb _ _ _ he hr2 g2
          have hbig : q ≤ 1000000000000000000 := by rw [i64_le, big]; exact hqq
          have hbig' : ¬ 1000000000000000000 < q := Int64.not_lt.mpr hbig
          refine mv_go hX 60 ?_
          simp only [mv_wps, mv_exq, mv_exr, mv_exn, mv_xg, mv_xpi, mv_xpl, mv_xpr, mv_xc, mv_xc2, mv_xs, mv_9z, mv_cqs, mv_calls, mv_lgz, mv_stz, mv_kz, mv_cz, mv_fvs, mv_ats, mv_ics, mv_rz, mv_tz, mv_cns, mv_nfs, mv_fins, mv_det, mv_cc, mv_c0, Nat.reduceAdd, Nat.reduceEqDiff, Nat.reduceLT, Nat.reduceLeDiff, Nat.reduceSub, reduceIte, decide_false, decide_true, Bool.false_eq_true, List.map_cons, List.map_nil, List.sum_cons, List.sum_nil, true_and, and_true, true_or, or_true, false_or, or_false, false_and, and_false, true_implies, false_implies, implies_true, not_true_eq_false, not_false_eq_true, lg_cmp_ge, lg_cmp_le, lg_cmp_gt, lg_cmp_lt, lg_cmp_eq, qX7_part, flX7s, cIX7s, cLX7s, csX7_part, sX7_part, ms_lll, hlt, hlt', hbig, hbig']
          rw [i32_m1]
          exact ihb (by omega) q r he hq0 hr2 (by omega)
        | succ j ihj =>
          intro hj q r he hq0 hr2 hr3
          by_cases hlt : r.toInt < x2.toInt
          · exact ihj (by omega) q r he hq0 hr2 (by
              have : x2.toInt ≤ (j + 1) * x2.toInt := by
                rw [Int.add_mul]
                have : 0 ≤ (j : Int) * x2.toInt := Int.mul_nonneg (by omega) (by omega)
                omega
              omega)
          · have hle : ¬ r < x2 := by rw [i64_lt]; exact hlt
            have hle' : x2 ≤ r := Int64.not_lt.mp hle
            have rs : (r - x2).toInt = r.toInt - x2.toInt := i64_sub (by omega) (by have := (i64_rng r).2; omega)
            have he2 : (q.toInt + 1) * x2.toInt + (r.toInt - x2.toInt) = x0.toInt / 2 ^ b * x1.toInt := by
              rw [Int.add_mul]; omega
            have hqq := qb _ _ _ he2 (by omega) g2
            have qs : (q + 1).toInt = q.toInt + 1 := by rw [i64_add (by rw [one]; omega) (by rw [one]; omega), one]
            refine mv_go hX 60 ?_
            simp only [mv_wps, mv_exq, mv_exr, mv_exn, mv_xg, mv_xpi, mv_xpl, mv_xpr, mv_xc, mv_xc2, mv_xs, mv_9z, mv_cqs, mv_calls, mv_lgz, mv_stz, mv_kz, mv_cz, mv_fvs, mv_ats, mv_ics, mv_rz, mv_tz, mv_cns, mv_nfs, mv_fins, mv_det, mv_cc, mv_c0, Nat.reduceAdd, Nat.reduceEqDiff, Nat.reduceLT, Nat.reduceLeDiff, Nat.reduceSub, reduceIte, decide_false, decide_true, Bool.false_eq_true, List.map_cons, List.map_nil, List.sum_cons, List.sum_nil, true_and, and_true, true_or, or_true, false_or, or_false, false_and, and_false, true_implies, false_implies, implies_true, not_true_eq_false, not_false_eq_true, lg_cmp_ge, lg_cmp_le, lg_cmp_gt, lg_cmp_lt, lg_cmp_eq, qX7_part, flX7s, cIX7s, cLX7s, csX7_part, sX7_part, ms_lll, hle, hle']
            refine ihj (by omega) _ _ (by rw [qs, rs]; exact he2) (by omega) (by omega) ?_
            rw [rs]
            have e3 : ((j + 1 : Nat) : Int) = (j : Int) + 1 := by omega
            rw [e3, Int.add_mul] at hr3
            omega
      refine mv_go hX 60 ?_
      simp only [mv_wps, mv_exq, mv_exr, mv_exn, mv_xg, mv_xpi, mv_xpl, mv_xpr, mv_xc, mv_xc2, mv_xs, mv_9z, mv_cqs, mv_calls, mv_lgz, mv_stz, mv_kz, mv_cz, mv_fvs, mv_ats, mv_ics, mv_rz, mv_tz, mv_cns, mv_nfs, mv_fins, mv_det, mv_cc, mv_c0, Nat.reduceAdd, Nat.reduceEqDiff, Nat.reduceLT, Nat.reduceLeDiff, Nat.reduceSub, reduceIte, decide_false, decide_true, Bool.false_eq_true, List.map_cons, List.map_nil, List.sum_cons, List.sum_nil, true_and, and_true, true_or, or_true, false_or, or_false, false_and, and_false, true_implies, false_implies, implies_true, not_true_eq_false, not_false_eq_true, lg_cmp_ge, lg_cmp_le, lg_cmp_gt, lg_cmp_lt, lg_cmp_eq, qX7_part, flX7s, cIX7s, cLX7s, csX7_part, sX7_part, ms_lll, hp, nw]
      refine ⟨fun hy => ?_, fun hy => ?_⟩
      · have hbit : x0.toInt / 2 ^ b % 2 ≠ 1 := fun z => hy (by rw [i64_eq, sh1, z]; decide)
        have hG : x0.toInt / 2 ^ b = 2 * (x0.toInt / 2 ^ (b + 1)) := by omega
        refine fin 2 (by omega) _ _ ?_ (by omega) (by omega) (by rw [r2]; omega)
        rw [q2, r2, hG, Int.mul_assoc, Int.mul_assoc]
        omega
      · have hy := Classical.not_not.mp hy
        have hbit : x0.toInt / 2 ^ b % 2 = 1 := by rw [← sh1, hy]; decide
        have hG : x0.toInt / 2 ^ b = 2 * (x0.toInt / 2 ^ (b + 1)) + 1 := by omega
        have hE : (2 * q.toInt + x1.toInt / x2.toInt) * x2.toInt + (2 * r.toInt + x1.toInt % x2.toInt) = x0.toInt / 2 ^ b * x1.toInt := by
          rw [hG, Int.add_mul, Int.add_mul, Int.mul_assoc, Int.mul_assoc, Int.mul_comm (x1.toInt / x2.toInt)]
          omega
        have hqq := qb _ _ _ hE (by omega) g2
        have q3 : (2 * q + x1 / x2).toInt = 2 * q.toInt + x1.toInt / x2.toInt := by rw [i64_add (by rw [q2, dw]; omega) (by rw [q2, dw]; omega), q2, dw]
        have r3 : (2 * r + (x1 - x1 / x2 * x2)).toInt = 2 * r.toInt + x1.toInt % x2.toInt := by rw [i64_add (by rw [r2, rw']; omega) (by rw [r2, rw']; omega), r2, rw']
        exact fin 2 (by omega) _ _ (by rw [q3, r3]; exact hE) (by omega) (by omega) (by rw [r3]; omega)
  refine mv_go hX 60 ?_
  simp only [mv_wps, mv_exq, mv_exr, mv_exn, mv_xg, mv_xpi, mv_xpl, mv_xpr, mv_xc, mv_xc2, mv_xs, mv_9z, mv_cqs, mv_calls, mv_lgz, mv_stz, mv_kz, mv_cz, mv_fvs, mv_ats, mv_ics, mv_rz, mv_tz, mv_cns, mv_nfs, mv_fins, mv_det, mv_cc, mv_c0, Nat.reduceAdd, Nat.reduceEqDiff, Nat.reduceLT, Nat.reduceLeDiff, Nat.reduceSub, reduceIte, decide_false, decide_true, Bool.false_eq_true, List.map_cons, List.map_nil, List.sum_cons, List.sum_nil, true_and, and_true, true_or, or_true, false_or, or_false, false_and, and_false, true_implies, false_implies, implies_true, not_true_eq_false, not_false_eq_true, lg_cmp_ge, lg_cmp_le, lg_cmp_gt, lg_cmp_lt, lg_cmp_eq, qX7_part, flX7s, cIX7s, cLX7s, csX7_part, sX7_part, ms_lll]
  have z0 : (0 : Int64).toInt = 0 := by decide
  have hz : x0.toInt / 2 ^ 63 = 0 := Int.ediv_eq_zero_of_lt hg (i64_rng x0).2
  exact loop 63 (by omega) 0 0 (by rw [z0, hz]; omega) (by rw [z0]; omega) (by rw [z0]; omega) (by rw [z0]; omega)
