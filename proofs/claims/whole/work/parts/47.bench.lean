/-! The bench's own numbers. -/
def pwF (x : Int64) : Nat → Int64
  | 0 => 1
  | k + 1 => pwF x k * x
def sX6_power (_ : List (Nat × Nat)) : mv_S := ms_li (fun _ e _ => isN e 5) (fun x e h v h' => v = some (.long (pwF x e.toNatClampNeg)) ∧ h' = h)
noncomputable def csX6_power (kd : List (Nat × Nat)) : mv_CS := mv_c0
theorem oX6_power {l : Launch} {b : Nat} {ad : Nat → Nat} {D : va_G} {cA : Nat → ClassId} {kd : List (Nat × Nat)} (had : ∀ i, i < kd.length → ad i = b + i) : mv_Own l (mv_room 0) b ad D cA kd RX6 flX6 cIX6 cLX6 (csX6_power kd) := (mv_o0 flX6_ok cIX6_ok cLX6_ok)
set_option maxRecDepth 100000 in
set_option maxHeartbeats 4000000 in
theorem ctX6_power {l : Launch} {b : Nat} {ad : Nat → Nat} {D : va_G} {cA : Nat → ClassId} {kd : List (Nat × Nat)} (had : ∀ i, i < kd.length → ad i = b + i) : mv_Ct l b ad D cA kd yX6_power cX6_power 6 (some .long) 0 (sX6_power kd) := by
  refine mv_introF (rk := 3) tX6_power (mv_pf plRX6) kX6_power had ⟨(fun e => by cases e), (fun e => by cases e), (fun e => by cases e), (fun _ => rfl), (fun e => by cases e)⟩ (oX6_power had) ?_
  intro h as hp
  obtain ⟨x0, x1, rfl, hq⟩ := ms_li_inv hp
  refine ⟨Nat.le_of_ble_eq_true rfl, fun X hX => ?_⟩
  show X 0 [some (.long x0), none, some (.int x1), none, none, none] [] h
  obtain ⟨e1, h1⟩ := hq
  generalize hn : x1.toNatClampNeg = n at e1 h1
  subst e1
  have loop : ∀ i, i ≤ n → X 5 [some (.long x0), none, some (.int (nI n)), some (.long (pwF x0 i)), none, some (.int (nI i))] [] h := by
    refine mv_up n ?_
    intro i hi ih
    refine mv_go hX 60 ?_
    simp only [mv_wps, mv_exq, mv_exr, mv_exn, mv_xg, mv_xpi, mv_xpl, mv_xpr, mv_xc, mv_xc2, mv_xs, mv_9z, mv_cqs, mv_calls, mv_lgz, mv_stz, mv_kz, mv_cz, mv_fvs, mv_ats, mv_ics, mv_rz, mv_tz, mv_cns, mv_nfs, mv_fins, mv_det, mv_cc, mv_c0, Nat.reduceAdd, Nat.reduceEqDiff, Nat.reduceLT, Nat.reduceLeDiff, Nat.reduceSub, reduceIte, decide_false, decide_true, Bool.false_eq_true, List.map_cons, List.map_nil, List.sum_cons, List.sum_nil, true_and, and_true, true_or, or_true, false_or, or_false, false_and, and_false, true_implies, false_implies, implies_true, not_true_eq_false, not_false_eq_true, lg_cmp_ge, lg_cmp_le, lg_cmp_gt, lg_cmp_lt, lg_cmp_eq, qX6_power, flX6s, cIX6s, cLX6s, csX6_power, sX6_power, ms_li]
    rw [hn]
    refine ⟨fun hc => ?_, fun hc => ?_⟩
    · rw [nI_leI (by omega) (by omega)] at hc
      obtain rfl : i = n := by omega
      rfl
    · rw [nI_leI (by omega) (by omega)] at hc
      rw [nI_1]
      exact ih (by omega)
  refine mv_go hX 60 ?_
  simp only [mv_wps, mv_exq, mv_exr, mv_exn, mv_xg, mv_xpi, mv_xpl, mv_xpr, mv_xc, mv_xc2, mv_xs, mv_9z, mv_cqs, mv_calls, mv_lgz, mv_stz, mv_kz, mv_cz, mv_fvs, mv_ats, mv_ics, mv_rz, mv_tz, mv_cns, mv_nfs, mv_fins, mv_det, mv_cc, mv_c0, Nat.reduceAdd, Nat.reduceEqDiff, Nat.reduceLT, Nat.reduceLeDiff, Nat.reduceSub, reduceIte, decide_false, decide_true, Bool.false_eq_true, List.map_cons, List.map_nil, List.sum_cons, List.sum_nil, true_and, and_true, true_or, or_true, false_or, or_false, false_and, and_false, true_implies, false_implies, implies_true, not_true_eq_false, not_false_eq_true, lg_cmp_ge, lg_cmp_le, lg_cmp_gt, lg_cmp_lt, lg_cmp_eq, qX6_power, flX6s, cIX6s, cLX6s, csX6_power, sX6_power, ms_li]
  exact loop 0 (by omega)
def nzF (a b : Int64) : Int64 := if 0 < b then (if 0 ≤ a then (2 * jAbs a + b - 1) / (2 * b) else - ((2 * jAbs a + b - 1) / (2 * b))) else 0
theorem i64_two {b : Int64} (h : 0 < b) : ¬ 2 * b = 0 := by
  intro e
  have h1 : 0 < b.toInt := by
    have := Int64.lt_iff_toInt_lt.mp h
    simpa using this
  have h2 := congrArg Int64.toInt e
  rw [Int64.toInt_mul] at h2
  have e2 : (2 : Int64).toInt = 2 := by decide
  have e0 : (0 : Int64).toInt = 0 := by decide
  rw [e2, e0] at h2
  have h3 : b.toInt < 2 ^ 63 := Int64.toInt_lt b
  simp only [Int.bmod] at h2
  split at h2 <;> omega
def sX6_nearestTowardsZero (_ : List (Nat × Nat)) : mv_S := ms_ll (fun _ _ _ => True) (fun a b h v h' => v = some (.long (nzF a b)) ∧ h' = h)
noncomputable def csX6_nearestTowardsZero (kd : List (Nat × Nat)) : mv_CS := (mv_cc 177 99 1 (sJ9_abs_067f4 kd) mv_c0)
theorem oX6_nearestTowardsZero {l : Launch} {b : Nat} {ad : Nat → Nat} {D : va_G} {cA : Nat → ClassId} {kd : List (Nat × Nat)} (had : ∀ i, i < kd.length → ad i = b + i) : mv_Own l (mv_room 1) b ad D cA kd RX6 flX6 cIX6 cLX6 (csX6_nearestTowardsZero kd) := (mv_oS lRX6_177 zJ9_abs_067f4 (ctJ9_abs_067f4 had) ⟨by decide, by decide⟩ (mv_o0 flX6_ok cIX6_ok cLX6_ok))
set_option maxRecDepth 100000 in
set_option maxHeartbeats 4000000 in
theorem ctX6_nearestTowardsZero {l : Launch} {b : Nat} {ad : Nat → Nat} {D : va_G} {cA : Nat → ClassId} {kd : List (Nat × Nat)} (had : ∀ i, i < kd.length → ad i = b + i) : mv_Ct l b ad D cA kd yX6_nearestTowardsZero cX6_nearestTowardsZero 6 (some .long) 1 (sX6_nearestTowardsZero kd) := by
  refine mv_introF (rk := 3) tX6_nearestTowardsZero (mv_pf plRX6) kX6_nearestTowardsZero had ⟨(fun e => by cases e), (fun e => by cases e), (fun e => by cases e), (fun _ => rfl), (fun e => by cases e)⟩ (oX6_nearestTowardsZero had) ?_
  intro h as hp
  obtain ⟨x0, x1, rfl, hq⟩ := ms_ll_inv hp
  refine ⟨Nat.le_of_ble_eq_true rfl, fun X hX => ?_⟩
  show X 0 [some (.long x0), none, some (.long x1), none, none, none] [] h
  refine mv_go hX 60 ?_
  simp only [mv_wps, mv_exq, mv_exr, mv_exn, mv_xg, mv_xpi, mv_xpl, mv_xpr, mv_xc, mv_xc2, mv_xs, mv_9z, mv_cqs, mv_calls, mv_lgz, mv_stz, mv_kz, mv_cz, mv_fvs, mv_ats, mv_ics, mv_rz, mv_tz, mv_cns, mv_nfs, mv_fins, mv_det, mv_cc, mv_c0, Nat.reduceAdd, Nat.reduceEqDiff, Nat.reduceLT, Nat.reduceLeDiff, Nat.reduceSub, reduceIte, decide_false, decide_true, Bool.false_eq_true, List.map_cons, List.map_nil, List.sum_cons, List.sum_nil, true_and, and_true, true_or, or_true, false_or, or_false, false_and, and_false, true_implies, false_implies, implies_true, not_true_eq_false, not_false_eq_true, lg_cmp_ge, lg_cmp_le, lg_cmp_gt, lg_cmp_lt, lg_cmp_eq, qX6_nearestTowardsZero, flX6s, cIX6s, cLX6s, csX6_nearestTowardsZero, sX6_nearestTowardsZero, sJ9_abs_067f4, ms_l, ms_ll]
  refine ⟨fun h1 => ⟨i64_two h1, fun h2 => ?_, fun h2 => ?_⟩, fun h1 => ?_⟩
  · rw [nzF, if_pos h1, if_pos h2]
  · rw [nzF, if_pos h1, if_neg h2]
  · rw [nzF, if_neg h1]
def lrm (x y : Int64) : Int64 := x - x / y * y
def cfF : Nat → Int32 → Int64 → Int64 → Int64 → Int64 → Int32
  | 0, _, _, _, _, _ => 0
  | n + 1, s, a, b, c, d => if 0 < b ∧ 0 < d then (if a / b = c / d then (if lrm a b = 0 ∨ lrm c d = 0 then s * jCmp (lrm a b) (lrm c d) else cfF n (-s) b (lrm a b) d (lrm c d)) else if c / d < a / b then s else -s) else 0
def sX6_compareFractions (_ : List (Nat × Nat)) : mv_S := ms_llll (fun _ _ _ _ _ => True) (fun a b c d h v h' => v = some (.int (cfF 200 1 a b c d)) ∧ h' = h)
noncomputable def csX6_compareFractions (kd : List (Nat × Nat)) : mv_CS := (mv_cc 264 99 2 (sJ13_compare_74951 kd) mv_c0)
theorem oX6_compareFractions {l : Launch} {b : Nat} {ad : Nat → Nat} {D : va_G} {cA : Nat → ClassId} {kd : List (Nat × Nat)} (had : ∀ i, i < kd.length → ad i = b + i) : mv_Own l (mv_room 1) b ad D cA kd RX6 flX6 cIX6 cLX6 (csX6_compareFractions kd) := (mv_oS lRX6_264 zJ13_compare_74951 (ctJ13_compare_74951 had) ⟨by decide, by decide⟩ (mv_o0 flX6_ok cIX6_ok cLX6_ok))
set_option maxRecDepth 100000 in
set_option maxHeartbeats 4000000 in
theorem ctX6_compareFractions {l : Launch} {b : Nat} {ad : Nat → Nat} {D : va_G} {cA : Nat → ClassId} {kd : List (Nat × Nat)} (had : ∀ i, i < kd.length → ad i = b + i) : mv_Ct l b ad D cA kd yX6_compareFractions cX6_compareFractions 14 (some .int) 1 (sX6_compareFractions kd) := by
  refine mv_introF (rk := 1) tX6_compareFractions (mv_pf plRX6) kX6_compareFractions had ⟨(fun e => by cases e), (fun _ => rfl), (fun e => by cases e), (fun e => by cases e), (fun e => by cases e)⟩ (oX6_compareFractions had) ?_
  intro h as hp
  obtain ⟨x0, x1, x2, x3, rfl, hq⟩ := ms_llll_inv hp
  refine ⟨Nat.le_of_ble_eq_true rfl, fun X hX => ?_⟩
  show X 0 [some (.long x0), none, some (.long x1), none, some (.long x2), none, some (.long x3), none, none, none, none, none, none, none] [] h
  have loop : ∀ i, i ≤ 200 → ∀ s a b c d, cfF (200 - i) s a b c d = cfF 200 1 x0 x1 x2 x3 → ∀ o o' o'' o''', X 6 [some (.long a), none, some (.long b), none, some (.long c), none, some (.long d), none, some (.int s), some (.int (nI i)), o, o', o'', o'''] [] h := by
    refine mv_up 200 ?_
    intro i hi ih s a b c d he o o' o'' o'''
    refine mv_go hX 80 ?_
    simp only [mv_wps, mv_exq, mv_exr, mv_exn, mv_xg, mv_xpi, mv_xpl, mv_xpr, mv_xc, mv_xc2, mv_xs, mv_9z, mv_cqs, mv_calls, mv_lgz, mv_stz, mv_kz, mv_cz, mv_fvs, mv_ats, mv_ics, mv_rz, mv_tz, mv_cns, mv_nfs, mv_fins, mv_det, mv_cc, mv_c0, Nat.reduceAdd, Nat.reduceEqDiff, Nat.reduceLT, Nat.reduceLeDiff, Nat.reduceSub, reduceIte, decide_false, decide_true, Bool.false_eq_true, List.map_cons, List.map_nil, List.sum_cons, List.sum_nil, true_and, and_true, true_or, or_true, false_or, or_false, false_and, and_false, true_implies, false_implies, implies_true, not_true_eq_false, not_false_eq_true, lg_cmp_ge, lg_cmp_le, lg_cmp_gt, lg_cmp_lt, lg_cmp_eq, qX6_compareFractions, flX6s, cIX6s, cLX6s, csX6_compareFractions, sX6_compareFractions, sJ13_compare_74951, ms_ll, ms_llll]
    refine ⟨fun hc => ?_, fun hc => ?_⟩
    · have hc : nI 200 ≤ nI i := hc
      rw [nI_leI (by omega) (by omega)] at hc
      obtain rfl : i = 200 := by omega
      rw [← he]
      rfl
    · have hc : ¬ nI 200 ≤ nI i := hc
      rw [nI_leI (by omega) (by omega)] at hc
      rw [show 200 - i = (199 - i) + 1 by omega, cfF] at he
      have lt_of : ∀ z : Int64, ¬ z ≤ 0 → 0 < z := fun z hz => Int64.not_le.mp hz
      have ne_of : ∀ z : Int64, ¬ z ≤ 0 → ¬ z = 0 := fun z hz e => hz (by rw [e]; exact Int64.le_refl 0)
      refine ⟨fun hb => ?_, fun hb => ⟨fun hd => ?_, fun hd => ⟨ne_of b hb, ne_of d hd, fun hz => ⟨ne_of b hb, ne_of d hd, fun h1 => ?_, fun h1 => ?_⟩, fun hz => ⟨ne_of b hb, ne_of d hd, fun h1 => ?_, fun h1 => ?_⟩⟩⟩⟩
      · rw [if_neg (fun z => absurd hb (Int64.not_le.mpr z.1))] at he
        rw [← he]
      · rw [if_neg (fun z => absurd hd (Int64.not_le.mpr z.2))] at he
        rw [← he]
      · have h1' : lrm a b = 0 := h1
        rw [if_pos ⟨lt_of b hb, lt_of d hd⟩, if_pos hz, if_pos (Or.inl h1')] at he
        rw [← he]
        rfl
      · have h1' : ¬ lrm a b = 0 := h1
        rw [if_pos ⟨lt_of b hb, lt_of d hd⟩, if_pos hz] at he
        refine ⟨fun h2 => ?_, fun h2 => ?_⟩
        · have h2' : ¬ lrm c d = 0 := h2
          rw [if_neg (fun z => z.elim h1' h2')] at he
          rw [nI_1]
          refine ih (by omega) _ _ _ _ _ ?_ _ _ _ _
          rw [show 200 - (i + 1) = 199 - i by omega]
          exact he
        · have h2' : lrm c d = 0 := Classical.not_not.mp h2
          rw [if_pos (Or.inr h2')] at he
          rw [← he]
          rfl
      · rw [if_pos ⟨lt_of b hb, lt_of d hd⟩, if_neg hz, if_neg (Int64.not_lt.mpr h1)] at he
        rw [← he]
      · rw [if_pos ⟨lt_of b hb, lt_of d hd⟩, if_neg hz, if_pos (Int64.not_le.mp h1)] at he
        rw [← he]
  refine mv_go hX 60 ?_
  simp only [mv_wps, mv_exq, mv_exr, mv_exn, mv_xg, mv_xpi, mv_xpl, mv_xpr, mv_xc, mv_xc2, mv_xs, mv_9z, mv_cqs, mv_calls, mv_lgz, mv_stz, mv_kz, mv_cz, mv_fvs, mv_ats, mv_ics, mv_rz, mv_tz, mv_cns, mv_nfs, mv_fins, mv_det, mv_cc, mv_c0, Nat.reduceAdd, Nat.reduceEqDiff, Nat.reduceLT, Nat.reduceLeDiff, Nat.reduceSub, reduceIte, decide_false, decide_true, Bool.false_eq_true, List.map_cons, List.map_nil, List.sum_cons, List.sum_nil, true_and, and_true, true_or, or_true, false_or, or_false, false_and, and_false, true_implies, false_implies, implies_true, not_true_eq_false, not_false_eq_true, lg_cmp_ge, lg_cmp_le, lg_cmp_gt, lg_cmp_lt, lg_cmp_eq, qX6_compareFractions, flX6s, cIX6s, cLX6s, csX6_compareFractions, sX6_compareFractions, sJ13_compare_74951, ms_ll, ms_llll]
  exact loop 0 (by omega) _ _ _ _ _ rfl _ _ _ _
