/-! Books: rows of a box, each one long. -/
def bw (h : mv_M) (b : Nat) : Nat := (h.1 b 0).toNatClampNeg
def bc (h : mv_M) (b : Nat) : Nat := (h.1 b 1).toNatClampNeg
def boOk (kd : List (Nat × Nat)) (h : mv_M) (b : Nat) : Prop := mv_k kd b = (0, 0) ∧ mv_k kd (b + 1) = (2, 4) ∧ mv_k kd (b + 2) = (2, 4) ∧ mv_k kd (b + 3) = (2, 1000) ∧ h.2.2 b 2 = some (b + 1) ∧ h.2.2 b 3 = some (b + 2) ∧ h.2.2 b 4 = some (b + 3) ∧ h.1 b 0 = nI (bw h b) ∧ bw h b ≤ 4 ∧ h.1 b 1 = nI (bc h b) ∧ bc h b ≤ 1000
theorem mv_lenK {kd : List (Nat × Nat)} {t a n : Nat} (h : mv_k kd a = (t, n)) : mv_len kd t a = n := by
  unfold mv_len
  rw [h]
  exact if_pos rfl
def sX0_ways (kd : List (Nat × Nat)) : mv_S := ms_a (fun b h => boOk kd h b) (fun b h v h' => v = some (.int (h.1 b 0)) ∧ h' = h)
def sX0_count (kd : List (Nat × Nat)) : mv_S := ms_a (fun b h => boOk kd h b) (fun b h v h' => v = some (.int (h.1 b 1)) ∧ h' = h)
def sX0_forgetRows (kd : List (Nat × Nat)) : mv_S := ms_a (fun b h => boOk kd h b) (fun b h v h' => v = none ∧ h' = mv_si h b 1 0)
def sX0_open (kd : List (Nat × Nat)) : mv_S := ms_ai (fun b _ h => boOk kd h b) (fun b n h v h' => v = none ∧ h' = mv_si (mv_si h b 0 (jMaxI 0 (jMinI n 4))) b 1 0)
abbrev bHas (h : mv_M) (b : Nat) (i k : Int32) : Prop := ¬ i < 0 ∧ ¬ nI (bc h b) ≤ i ∧ ¬ k < 0 ∧ ¬ nI (bw h b) ≤ k
def sX0_has (kd : List (Nat × Nat)) : mv_S := ms_aii (fun b _ _ h => boOk kd h b) (fun b i k h v h' => v = some (.int (if bHas h b i k then 1 else 0)) ∧ h' = h)
abbrev inR (n : Nat) (i : Int32) : Prop := ¬ i < 0 ∧ ¬ nI n ≤ i
theorem inR_vp {n N : Nat} {i : Int32} (h : inR n i) (hn : n ≤ N) (hN : N < 2 ^ 31) : vp_in i N := by
  obtain ⟨a, ha, rfl⟩ := nI_of h.1
  have := h.2
  rw [nI_leI (by omega) ha] at this
  exact vp_in_nI (by omega) hN
def sX0_lowest (kd : List (Nat × Nat)) : mv_S := ms_ai (fun b _ h => boOk kd h b) (fun b i h v h' => v = some (.long (if inR (bw h b) i then h.2.1 (b + 1) i.toNatClampNeg else 0)) ∧ h' = h)
def sX0_span (kd : List (Nat × Nat)) : mv_S := ms_ai (fun b _ h => boOk kd h b) (fun b i h v h' => v = some (.long (if inR (bw h b) i then h.2.1 (b + 2) i.toNatClampNeg else 0)) ∧ h' = h)
def boRange (h : mv_M) (b : Nat) (i : Int32) (lo hi : Int64) : mv_M := if inR (bw h b) i then mv_sl (mv_sl h (b + 1) i.toNatClampNeg lo) (b + 2) i.toNatClampNeg (jMaxL 0 (hi - lo + 1)) else h
def sX0_setRange (kd : List (Nat × Nat)) : mv_S := ms_aill (fun b _ _ _ h => boOk kd h b) (fun b i lo hi h v h' => v = none ∧ h' = boRange h b i lo hi)
def szOf (k : Int64) : Int64 := k >>> ((19 : Int32).toInt64 &&& 63)
def sX0_sizeAt (kd : List (Nat × Nat)) : mv_S := ms_ai (fun b _ h => boOk kd h b) (fun b i h v h' => v = some (.long (if inR (bc h b) i then szOf (h.2.1 (b + 3) i.toNatClampNeg) else 0)) ∧ h' = h)
noncomputable def csX0_ways (kd : List (Nat × Nat)) : mv_CS := mv_c0
theorem oX0_ways {l : Launch} {b : Nat} {ad : Nat → Nat} {D : va_G} {cA : Nat → ClassId} {kd : List (Nat × Nat)} (had : ∀ i, i < kd.length → ad i = b + i) : mv_Own l (mv_room 0) b ad D cA kd RX0 flX0 cIX0 cLX0 (csX0_ways kd) := (mv_o0 flX0_ok cIX0_ok cLX0_ok)
set_option maxRecDepth 100000 in
set_option maxHeartbeats 4000000 in
theorem ctX0_ways {l : Launch} {b : Nat} {ad : Nat → Nat} {D : va_G} {cA : Nat → ClassId} {kd : List (Nat × Nat)} (had : ∀ i, i < kd.length → ad i = b + i) : mv_Ct l b ad D cA kd yX0_ways cX0_ways 1 (some .int) 0 (sX0_ways kd) := by
  refine mv_introF (rk := 1) tX0_ways (mv_pf plRX0) kX0_ways had ⟨(fun e => by cases e), (fun _ => rfl), (fun e => by cases e), (fun e => by cases e), (fun e => by cases e)⟩ (oX0_ways had) ?_
  intro h as hp
  obtain ⟨x0, rfl, hq⟩ := ms_a_inv hp
  refine ⟨Nat.le_of_ble_eq_true rfl, fun X hX => ?_⟩
  show X 0 [some (.ref x0)] [] h
  refine mv_go hX 20 ?_
  simp only [mv_wps, mv_exq, mv_exr, mv_exn, mv_xg, mv_xpi, mv_xpl, mv_xpr, mv_xc, mv_xc2, mv_xs, mv_9z, mv_cqs, mv_calls, mv_lgz, mv_stz, mv_kz, mv_cz, mv_fvs, mv_ats, mv_ics, mv_rz, mv_tz, mv_cns, mv_nfs, mv_fins, mv_det, mv_cc, mv_c0, Nat.reduceAdd, Nat.reduceEqDiff, Nat.reduceLT, Nat.reduceLeDiff, Nat.reduceSub, reduceIte, decide_false, decide_true, Bool.false_eq_true, List.map_cons, List.map_nil, List.sum_cons, List.sum_nil, true_and, and_true, true_or, or_true, false_or, or_false, false_and, and_false, true_implies, false_implies, implies_true, not_true_eq_false, not_false_eq_true, lg_cmp_ge, lg_cmp_le, lg_cmp_gt, lg_cmp_lt, lg_cmp_eq, qX0_ways, flX0s, cIX0s, cLX0s, csX0_ways, sX0_ways, ms_a, hq.1]
noncomputable def csX0_count (kd : List (Nat × Nat)) : mv_CS := mv_c0
theorem oX0_count {l : Launch} {b : Nat} {ad : Nat → Nat} {D : va_G} {cA : Nat → ClassId} {kd : List (Nat × Nat)} (had : ∀ i, i < kd.length → ad i = b + i) : mv_Own l (mv_room 0) b ad D cA kd RX0 flX0 cIX0 cLX0 (csX0_count kd) := (mv_o0 flX0_ok cIX0_ok cLX0_ok)
set_option maxRecDepth 100000 in
set_option maxHeartbeats 4000000 in
theorem ctX0_count {l : Launch} {b : Nat} {ad : Nat → Nat} {D : va_G} {cA : Nat → ClassId} {kd : List (Nat × Nat)} (had : ∀ i, i < kd.length → ad i = b + i) : mv_Ct l b ad D cA kd yX0_count cX0_count 1 (some .int) 0 (sX0_count kd) := by
  refine mv_introF (rk := 1) tX0_count (mv_pf plRX0) kX0_count had ⟨(fun e => by cases e), (fun _ => rfl), (fun e => by cases e), (fun e => by cases e), (fun e => by cases e)⟩ (oX0_count had) ?_
  intro h as hp
  obtain ⟨x0, rfl, hq⟩ := ms_a_inv hp
  refine ⟨Nat.le_of_ble_eq_true rfl, fun X hX => ?_⟩
  show X 0 [some (.ref x0)] [] h
  refine mv_go hX 20 ?_
  simp only [mv_wps, mv_exq, mv_exr, mv_exn, mv_xg, mv_xpi, mv_xpl, mv_xpr, mv_xc, mv_xc2, mv_xs, mv_9z, mv_cqs, mv_calls, mv_lgz, mv_stz, mv_kz, mv_cz, mv_fvs, mv_ats, mv_ics, mv_rz, mv_tz, mv_cns, mv_nfs, mv_fins, mv_det, mv_cc, mv_c0, Nat.reduceAdd, Nat.reduceEqDiff, Nat.reduceLT, Nat.reduceLeDiff, Nat.reduceSub, reduceIte, decide_false, decide_true, Bool.false_eq_true, List.map_cons, List.map_nil, List.sum_cons, List.sum_nil, true_and, and_true, true_or, or_true, false_or, or_false, false_and, and_false, true_implies, false_implies, implies_true, not_true_eq_false, not_false_eq_true, lg_cmp_ge, lg_cmp_le, lg_cmp_gt, lg_cmp_lt, lg_cmp_eq, qX0_count, flX0s, cIX0s, cLX0s, csX0_count, sX0_count, ms_a, hq.1]
noncomputable def csX0_forgetRows (kd : List (Nat × Nat)) : mv_CS := mv_c0
theorem oX0_forgetRows {l : Launch} {b : Nat} {ad : Nat → Nat} {D : va_G} {cA : Nat → ClassId} {kd : List (Nat × Nat)} (had : ∀ i, i < kd.length → ad i = b + i) : mv_Own l (mv_room 0) b ad D cA kd RX0 flX0 cIX0 cLX0 (csX0_forgetRows kd) := (mv_o0 flX0_ok cIX0_ok cLX0_ok)
set_option maxRecDepth 100000 in
set_option maxHeartbeats 4000000 in
theorem ctX0_forgetRows {l : Launch} {b : Nat} {ad : Nat → Nat} {D : va_G} {cA : Nat → ClassId} {kd : List (Nat × Nat)} (had : ∀ i, i < kd.length → ad i = b + i) : mv_Ct l b ad D cA kd yX0_forgetRows cX0_forgetRows 1 none 0 (sX0_forgetRows kd) := by
  refine mv_introF (rk := 0) tX0_forgetRows (mv_pf plRX0) kX0_forgetRows had ⟨(fun _ => rfl), (fun e => by cases e), (fun e => by cases e), (fun e => by cases e), (fun e => by cases e)⟩ (oX0_forgetRows had) ?_
  intro h as hp
  obtain ⟨x0, rfl, hq⟩ := ms_a_inv hp
  refine ⟨Nat.le_of_ble_eq_true rfl, fun X hX => ?_⟩
  show X 0 [some (.ref x0)] [] h
  refine mv_go hX 20 ?_
  simp only [mv_wps, mv_exq, mv_exr, mv_exn, mv_xg, mv_xpi, mv_xpl, mv_xpr, mv_xc, mv_xc2, mv_xs, mv_9z, mv_cqs, mv_calls, mv_lgz, mv_stz, mv_kz, mv_cz, mv_fvs, mv_ats, mv_ics, mv_rz, mv_tz, mv_cns, mv_nfs, mv_fins, mv_det, mv_cc, mv_c0, Nat.reduceAdd, Nat.reduceEqDiff, Nat.reduceLT, Nat.reduceLeDiff, Nat.reduceSub, reduceIte, decide_false, decide_true, Bool.false_eq_true, List.map_cons, List.map_nil, List.sum_cons, List.sum_nil, true_and, and_true, true_or, or_true, false_or, or_false, false_and, and_false, true_implies, false_implies, implies_true, not_true_eq_false, not_false_eq_true, lg_cmp_ge, lg_cmp_le, lg_cmp_gt, lg_cmp_lt, lg_cmp_eq, qX0_forgetRows, flX0s, cIX0s, cLX0s, csX0_forgetRows, sX0_forgetRows, ms_a, hq.1]
noncomputable def csX0_open (kd : List (Nat × Nat)) : mv_CS := (mv_cc 28 99 2 (sJ9_min_7cf53 kd) (mv_cc 34 99 2 (sJ9_max_7cf53 kd) mv_c0))
theorem oX0_open {l : Launch} {b : Nat} {ad : Nat → Nat} {D : va_G} {cA : Nat → ClassId} {kd : List (Nat × Nat)} (had : ∀ i, i < kd.length → ad i = b + i) : mv_Own l (mv_room 1) b ad D cA kd RX0 flX0 cIX0 cLX0 (csX0_open kd) := (mv_oS lRX0_28 zJ9_min_7cf53 (ctJ9_min_7cf53 had) ⟨by decide, by decide⟩ (mv_oS lRX0_34 zJ9_max_7cf53 (ctJ9_max_7cf53 had) ⟨by decide, by decide⟩ (mv_o0 flX0_ok cIX0_ok cLX0_ok)))
set_option maxRecDepth 100000 in
set_option maxHeartbeats 4000000 in
theorem ctX0_open {l : Launch} {b : Nat} {ad : Nat → Nat} {D : va_G} {cA : Nat → ClassId} {kd : List (Nat × Nat)} (had : ∀ i, i < kd.length → ad i = b + i) : mv_Ct l b ad D cA kd yX0_open cX0_open 2 none 1 (sX0_open kd) := by
  refine mv_introF (rk := 0) tX0_open (mv_pf plRX0) kX0_open had ⟨(fun _ => rfl), (fun e => by cases e), (fun e => by cases e), (fun e => by cases e), (fun e => by cases e)⟩ (oX0_open had) ?_
  intro h as hp
  obtain ⟨x0, x1, rfl, hq⟩ := ms_ai_inv hp
  refine ⟨Nat.le_of_ble_eq_true rfl, fun X hX => ?_⟩
  show X 0 [some (.ref x0), some (.int x1)] [] h
  refine mv_go hX 40 ?_
  simp only [mv_wps, mv_exq, mv_exr, mv_exn, mv_xg, mv_xpi, mv_xpl, mv_xpr, mv_xc, mv_xc2, mv_xs, mv_9z, mv_cqs, mv_calls, mv_lgz, mv_stz, mv_kz, mv_cz, mv_fvs, mv_ats, mv_ics, mv_rz, mv_tz, mv_cns, mv_nfs, mv_fins, mv_det, mv_cc, mv_c0, Nat.reduceAdd, Nat.reduceEqDiff, Nat.reduceLT, Nat.reduceLeDiff, Nat.reduceSub, reduceIte, decide_false, decide_true, Bool.false_eq_true, List.map_cons, List.map_nil, List.sum_cons, List.sum_nil, true_and, and_true, true_or, or_true, false_or, or_false, false_and, and_false, true_implies, false_implies, implies_true, not_true_eq_false, not_false_eq_true, lg_cmp_ge, lg_cmp_le, lg_cmp_gt, lg_cmp_lt, lg_cmp_eq, qX0_open, flX0s, cIX0s, cLX0s, csX0_open, sX0_open, sJ9_min_7cf53, sJ9_max_7cf53, ms_ai, ms_ii, hq.1]
noncomputable def csX0_has (kd : List (Nat × Nat)) : mv_CS := mv_c0
theorem oX0_has {l : Launch} {b : Nat} {ad : Nat → Nat} {D : va_G} {cA : Nat → ClassId} {kd : List (Nat × Nat)} (had : ∀ i, i < kd.length → ad i = b + i) : mv_Own l (mv_room 0) b ad D cA kd RX0 flX0 cIX0 cLX0 (csX0_has kd) := (mv_o0 flX0_ok cIX0_ok cLX0_ok)
set_option maxRecDepth 100000 in
set_option maxHeartbeats 4000000 in
theorem ctX0_has {l : Launch} {b : Nat} {ad : Nat → Nat} {D : va_G} {cA : Nat → ClassId} {kd : List (Nat × Nat)} (had : ∀ i, i < kd.length → ad i = b + i) : mv_Ct l b ad D cA kd yX0_has cX0_has 3 (some .boolean) 0 (sX0_has kd) := by
  refine mv_introF (rk := 2) tX0_has (mv_pf plRX0) kX0_has had ⟨(fun e => by cases e), (fun e => by cases e), (fun _ => rfl), (fun e => by cases e), (fun e => by cases e)⟩ (oX0_has had) ?_
  intro h as hp
  obtain ⟨x0, x1, x2, rfl, hq⟩ := ms_aii_inv hp
  refine ⟨Nat.le_of_ble_eq_true rfl, fun X hX => ?_⟩
  show X 0 [some (.ref x0), some (.int x1), some (.int x2)] [] h
  obtain ⟨k1, k2, k3, k4, r1, r2, r3, e1, e2, e3, e4⟩ := hq
  refine mv_go hX 40 ?_
  simp only [mv_wps, mv_exq, mv_exr, mv_exn, mv_xg, mv_xpi, mv_xpl, mv_xpr, mv_xc, mv_xc2, mv_xs, mv_9z, mv_cqs, mv_calls, mv_lgz, mv_stz, mv_kz, mv_cz, mv_fvs, mv_ats, mv_ics, mv_rz, mv_tz, mv_cns, mv_nfs, mv_fins, mv_det, mv_cc, mv_c0, Nat.reduceAdd, Nat.reduceEqDiff, Nat.reduceLT, Nat.reduceLeDiff, Nat.reduceSub, reduceIte, decide_false, decide_true, Bool.false_eq_true, List.map_cons, List.map_nil, List.sum_cons, List.sum_nil, true_and, and_true, true_or, or_true, false_or, or_false, false_and, and_false, true_implies, false_implies, implies_true, not_true_eq_false, not_false_eq_true, lg_cmp_ge, lg_cmp_le, lg_cmp_gt, lg_cmp_lt, lg_cmp_eq, qX0_has, flX0s, cIX0s, cLX0s, csX0_has, sX0_has, ms_aii, k1, e1, e3]
  refine ⟨fun h1 => ?_, fun h1 => ⟨fun h2 => ?_, fun h2 => ⟨fun h3 => ?_, fun h3 => ⟨fun h4 => ?_, fun h4 => ?_⟩⟩⟩⟩
  · simp [bHas, h1]
  · simp [bHas, h2]
  · simp [bHas, h3]
  · simp [bHas, h4]
  · simp [bHas, h1, h2, h3, h4]
noncomputable def csX0_lowest (kd : List (Nat × Nat)) : mv_CS := mv_c0
theorem oX0_lowest {l : Launch} {b : Nat} {ad : Nat → Nat} {D : va_G} {cA : Nat → ClassId} {kd : List (Nat × Nat)} (had : ∀ i, i < kd.length → ad i = b + i) : mv_Own l (mv_room 0) b ad D cA kd RX0 flX0 cIX0 cLX0 (csX0_lowest kd) := (mv_o0 flX0_ok cIX0_ok cLX0_ok)
set_option maxRecDepth 100000 in
set_option maxHeartbeats 4000000 in
theorem ctX0_lowest {l : Launch} {b : Nat} {ad : Nat → Nat} {D : va_G} {cA : Nat → ClassId} {kd : List (Nat × Nat)} (had : ∀ i, i < kd.length → ad i = b + i) : mv_Ct l b ad D cA kd yX0_lowest cX0_lowest 2 (some .long) 0 (sX0_lowest kd) := by
  refine mv_introF (rk := 3) tX0_lowest (mv_pf plRX0) kX0_lowest had ⟨(fun e => by cases e), (fun e => by cases e), (fun e => by cases e), (fun _ => rfl), (fun e => by cases e)⟩ (oX0_lowest had) ?_
  intro h as hp
  obtain ⟨x0, x1, rfl, hq⟩ := ms_ai_inv hp
  refine ⟨Nat.le_of_ble_eq_true rfl, fun X hX => ?_⟩
  show X 0 [some (.ref x0), some (.int x1)] [] h
  obtain ⟨k1, k2, k3, k4, r1, r2, r3, e1, e2, e3, e4⟩ := hq
  refine mv_go hX 40 ?_
  simp only [mv_wps, mv_exq, mv_exr, mv_exn, mv_xg, mv_xpi, mv_xpl, mv_xpr, mv_xc, mv_xc2, mv_xs, mv_9z, mv_cqs, mv_calls, mv_lgz, mv_stz, mv_kz, mv_cz, mv_fvs, mv_ats, mv_ics, mv_rz, mv_tz, mv_cns, mv_nfs, mv_fins, mv_det, mv_cc, mv_c0, Nat.reduceAdd, Nat.reduceEqDiff, Nat.reduceLT, Nat.reduceLeDiff, Nat.reduceSub, reduceIte, decide_false, decide_true, Bool.false_eq_true, List.map_cons, List.map_nil, List.sum_cons, List.sum_nil, true_and, and_true, true_or, or_true, false_or, or_false, false_and, and_false, true_implies, false_implies, implies_true, not_true_eq_false, not_false_eq_true, lg_cmp_ge, lg_cmp_le, lg_cmp_gt, lg_cmp_lt, lg_cmp_eq, qX0_lowest, flX0s, cIX0s, cLX0s, csX0_lowest, sX0_lowest, ms_ai, k1, e1, e3, r1, r2, r3, mv_lenK k2]
  refine ⟨fun h1 => by simp [inR, h1], fun h1 => ⟨fun h2 => by simp [inR, h2], fun h2 => ?_⟩⟩
  have hr : inR (bw h x0) x1 := ⟨h1, h2⟩
  exact ⟨inR_vp hr e2 (by omega), by rw [if_pos hr]⟩
noncomputable def csX0_span (kd : List (Nat × Nat)) : mv_CS := mv_c0
theorem oX0_span {l : Launch} {b : Nat} {ad : Nat → Nat} {D : va_G} {cA : Nat → ClassId} {kd : List (Nat × Nat)} (had : ∀ i, i < kd.length → ad i = b + i) : mv_Own l (mv_room 0) b ad D cA kd RX0 flX0 cIX0 cLX0 (csX0_span kd) := (mv_o0 flX0_ok cIX0_ok cLX0_ok)
set_option maxRecDepth 100000 in
set_option maxHeartbeats 4000000 in
theorem ctX0_span {l : Launch} {b : Nat} {ad : Nat → Nat} {D : va_G} {cA : Nat → ClassId} {kd : List (Nat × Nat)} (had : ∀ i, i < kd.length → ad i = b + i) : mv_Ct l b ad D cA kd yX0_span cX0_span 2 (some .long) 0 (sX0_span kd) := by
  refine mv_introF (rk := 3) tX0_span (mv_pf plRX0) kX0_span had ⟨(fun e => by cases e), (fun e => by cases e), (fun e => by cases e), (fun _ => rfl), (fun e => by cases e)⟩ (oX0_span had) ?_
  intro h as hp
  obtain ⟨x0, x1, rfl, hq⟩ := ms_ai_inv hp
  refine ⟨Nat.le_of_ble_eq_true rfl, fun X hX => ?_⟩
  show X 0 [some (.ref x0), some (.int x1)] [] h
  obtain ⟨k1, k2, k3, k4, r1, r2, r3, e1, e2, e3, e4⟩ := hq
  refine mv_go hX 40 ?_
  simp only [mv_wps, mv_exq, mv_exr, mv_exn, mv_xg, mv_xpi, mv_xpl, mv_xpr, mv_xc, mv_xc2, mv_xs, mv_9z, mv_cqs, mv_calls, mv_lgz, mv_stz, mv_kz, mv_cz, mv_fvs, mv_ats, mv_ics, mv_rz, mv_tz, mv_cns, mv_nfs, mv_fins, mv_det, mv_cc, mv_c0, Nat.reduceAdd, Nat.reduceEqDiff, Nat.reduceLT, Nat.reduceLeDiff, Nat.reduceSub, reduceIte, decide_false, decide_true, Bool.false_eq_true, List.map_cons, List.map_nil, List.sum_cons, List.sum_nil, true_and, and_true, true_or, or_true, false_or, or_false, false_and, and_false, true_implies, false_implies, implies_true, not_true_eq_false, not_false_eq_true, lg_cmp_ge, lg_cmp_le, lg_cmp_gt, lg_cmp_lt, lg_cmp_eq, qX0_span, flX0s, cIX0s, cLX0s, csX0_span, sX0_span, ms_ai, k1, e1, e3, r1, r2, r3, mv_lenK k3]
  refine ⟨fun h1 => by simp [inR, h1], fun h1 => ⟨fun h2 => by simp [inR, h2], fun h2 => ?_⟩⟩
  have hr : inR (bw h x0) x1 := ⟨h1, h2⟩
  exact ⟨inR_vp hr e2 (by omega), by rw [if_pos hr]⟩
noncomputable def csX0_setRange (kd : List (Nat × Nat)) : mv_CS := (mv_cc 37 99 2 (sJ9_max_f86c9 kd) mv_c0)
theorem oX0_setRange {l : Launch} {b : Nat} {ad : Nat → Nat} {D : va_G} {cA : Nat → ClassId} {kd : List (Nat × Nat)} (had : ∀ i, i < kd.length → ad i = b + i) : mv_Own l (mv_room 1) b ad D cA kd RX0 flX0 cIX0 cLX0 (csX0_setRange kd) := (mv_oS lRX0_37 zJ9_max_f86c9 (ctJ9_max_f86c9 had) ⟨by decide, by decide⟩ (mv_o0 flX0_ok cIX0_ok cLX0_ok))
set_option maxRecDepth 100000 in
set_option maxHeartbeats 4000000 in
theorem ctX0_setRange {l : Launch} {b : Nat} {ad : Nat → Nat} {D : va_G} {cA : Nat → ClassId} {kd : List (Nat × Nat)} (had : ∀ i, i < kd.length → ad i = b + i) : mv_Ct l b ad D cA kd yX0_setRange cX0_setRange 6 none 1 (sX0_setRange kd) := by
  refine mv_introF (rk := 0) tX0_setRange (mv_pf plRX0) kX0_setRange had ⟨(fun _ => rfl), (fun e => by cases e), (fun e => by cases e), (fun e => by cases e), (fun e => by cases e)⟩ (oX0_setRange had) ?_
  intro h as hp
  obtain ⟨x0, x1, x2, x3, rfl, hq⟩ := ms_aill_inv hp
  refine ⟨Nat.le_of_ble_eq_true rfl, fun X hX => ?_⟩
  show X 0 [some (.ref x0), some (.int x1), some (.long x2), none, some (.long x3), none] [] h
  obtain ⟨k1, k2, k3, k4, r1, r2, r3, e1, e2, e3, e4⟩ := hq
  refine mv_go hX 60 ?_
  simp only [mv_wps, mv_exq, mv_exr, mv_exn, mv_xg, mv_xpi, mv_xpl, mv_xpr, mv_xc, mv_xc2, mv_xs, mv_9z, mv_cqs, mv_calls, mv_lgz, mv_stz, mv_kz, mv_cz, mv_fvs, mv_ats, mv_ics, mv_rz, mv_tz, mv_cns, mv_nfs, mv_fins, mv_det, mv_cc, mv_c0, Nat.reduceAdd, Nat.reduceEqDiff, Nat.reduceLT, Nat.reduceLeDiff, Nat.reduceSub, reduceIte, decide_false, decide_true, Bool.false_eq_true, List.map_cons, List.map_nil, List.sum_cons, List.sum_nil, true_and, and_true, true_or, or_true, false_or, or_false, false_and, and_false, true_implies, false_implies, implies_true, not_true_eq_false, not_false_eq_true, lg_cmp_ge, lg_cmp_le, lg_cmp_gt, lg_cmp_lt, lg_cmp_eq, qX0_setRange, flX0s, cIX0s, cLX0s, csX0_setRange, sX0_setRange, sJ9_max_f86c9, ms_aill, ms_ll, k1, e1, e3, r1, r2, r3, mv_lenK k2, mv_lenK k3, mv_slR]
  refine ⟨fun h1 => by simp [boRange, inR, h1], fun h1 => ⟨fun h2 => by simp [boRange, inR, h2], fun h2 => ?_⟩⟩
  have hr : inR (bw h x0) x1 := ⟨h1, h2⟩
  exact ⟨inR_vp hr e2 (by omega), inR_vp hr e2 (by omega), by rw [boRange, if_pos hr]⟩
noncomputable def csX0_sizeAt (kd : List (Nat × Nat)) : mv_CS := mv_c0
theorem oX0_sizeAt {l : Launch} {b : Nat} {ad : Nat → Nat} {D : va_G} {cA : Nat → ClassId} {kd : List (Nat × Nat)} (had : ∀ i, i < kd.length → ad i = b + i) : mv_Own l (mv_room 0) b ad D cA kd RX0 flX0 cIX0 cLX0 (csX0_sizeAt kd) := (mv_o0 flX0_ok cIX0_ok cLX0_ok)
set_option maxRecDepth 100000 in
set_option maxHeartbeats 4000000 in
theorem ctX0_sizeAt {l : Launch} {b : Nat} {ad : Nat → Nat} {D : va_G} {cA : Nat → ClassId} {kd : List (Nat × Nat)} (had : ∀ i, i < kd.length → ad i = b + i) : mv_Ct l b ad D cA kd yX0_sizeAt cX0_sizeAt 2 (some .long) 0 (sX0_sizeAt kd) := by
  refine mv_introF (rk := 3) tX0_sizeAt (mv_pf plRX0) kX0_sizeAt had ⟨(fun e => by cases e), (fun e => by cases e), (fun e => by cases e), (fun _ => rfl), (fun e => by cases e)⟩ (oX0_sizeAt had) ?_
  intro h as hp
  obtain ⟨x0, x1, rfl, hq⟩ := ms_ai_inv hp
  refine ⟨Nat.le_of_ble_eq_true rfl, fun X hX => ?_⟩
  show X 0 [some (.ref x0), some (.int x1)] [] h
  obtain ⟨k1, k2, k3, k4, r1, r2, r3, e1, e2, e3, e4⟩ := hq
  refine mv_go hX 60 ?_
  simp only [mv_wps, mv_exq, mv_exr, mv_exn, mv_xg, mv_xpi, mv_xpl, mv_xpr, mv_xc, mv_xc2, mv_xs, mv_9z, mv_cqs, mv_calls, mv_lgz, mv_stz, mv_kz, mv_cz, mv_fvs, mv_ats, mv_ics, mv_rz, mv_tz, mv_cns, mv_nfs, mv_fins, mv_det, mv_cc, mv_c0, Nat.reduceAdd, Nat.reduceEqDiff, Nat.reduceLT, Nat.reduceLeDiff, Nat.reduceSub, reduceIte, decide_false, decide_true, Bool.false_eq_true, List.map_cons, List.map_nil, List.sum_cons, List.sum_nil, true_and, and_true, true_or, or_true, false_or, or_false, false_and, and_false, true_implies, false_implies, implies_true, not_true_eq_false, not_false_eq_true, lg_cmp_ge, lg_cmp_le, lg_cmp_gt, lg_cmp_lt, lg_cmp_eq, qX0_sizeAt, flX0s, cIX0s, cLX0s, csX0_sizeAt, sX0_sizeAt, ms_ai, k1, e1, e3, r1, r2, r3, mv_lenK k4]
  refine ⟨fun h1 => by simp [inR, h1], fun h1 => ⟨fun h2 => by simp [inR, h2], fun h2 => ?_⟩⟩
  have hr : inR (bc h x0) x1 := ⟨h1, h2⟩
  exact ⟨inR_vp hr e4 (by omega), by rw [if_pos hr]; rfl⟩
/-! how many rows the box has; its widest place -/
def bxP (f : Nat → Int64) : Nat → Int64
  | 0 => 1
  | k + 1 => if 300000 < bxP f k then bxP f k else bxP f k * f k
def sX0_boxCount (kd : List (Nat × Nat)) : mv_S := ms_a (fun b h => boOk kd h b) (fun b h v h' => v = some (.long (bxP (h.2.1 (b + 2)) (bw h b))) ∧ h' = h)
theorem bxP_stop {f : Nat → Int64} {k : Nat} (h : 300000 < bxP f k) : ∀ m, bxP f (k + m) = bxP f k
  | 0 => rfl
  | m + 1 => by
    show bxP f (k + m + 1) = _
    rw [bxP, bxP_stop h m, if_pos h]
noncomputable def csX0_boxCount (kd : List (Nat × Nat)) : mv_CS := mv_c0
theorem oX0_boxCount {l : Launch} {b : Nat} {ad : Nat → Nat} {D : va_G} {cA : Nat → ClassId} {kd : List (Nat × Nat)} (had : ∀ i, i < kd.length → ad i = b + i) : mv_Own l (mv_room 0) b ad D cA kd RX0 flX0 cIX0 cLX0 (csX0_boxCount kd) := (mv_o0 flX0_ok cIX0_ok cLX0_ok)
set_option maxRecDepth 100000 in
set_option maxHeartbeats 4000000 in
theorem ctX0_boxCount {l : Launch} {b : Nat} {ad : Nat → Nat} {D : va_G} {cA : Nat → ClassId} {kd : List (Nat × Nat)} (had : ∀ i, i < kd.length → ad i = b + i) : mv_Ct l b ad D cA kd yX0_boxCount cX0_boxCount 4 (some .long) 0 (sX0_boxCount kd) := by
  refine mv_introF (rk := 3) tX0_boxCount (mv_pf plRX0) kX0_boxCount had ⟨(fun e => by cases e), (fun e => by cases e), (fun e => by cases e), (fun _ => rfl), (fun e => by cases e)⟩ (oX0_boxCount had) ?_
  intro h as hp
  obtain ⟨x0, rfl, hq⟩ := ms_a_inv hp
  refine ⟨Nat.le_of_ble_eq_true rfl, fun X hX => ?_⟩
  show X 0 [some (.ref x0), none, none, none] [] h
  obtain ⟨k1, k2, k3, k4, r1, r2, r3, e1, e2, e3, e4⟩ := hq
  have loop : ∀ i, i ≤ bw h x0 → X 4 [some (.ref x0), some (.long (bxP (h.2.1 (x0 + 2)) i)), none, some (.int (nI i))] [] h := by
    refine mv_up (bw h x0) ?_
    intro i hi ih
    refine mv_go hX 60 ?_
    simp only [mv_wps, mv_exq, mv_exr, mv_exn, mv_xg, mv_xpi, mv_xpl, mv_xpr, mv_xc, mv_xc2, mv_xs, mv_9z, mv_cqs, mv_calls, mv_lgz, mv_stz, mv_kz, mv_cz, mv_fvs, mv_ats, mv_ics, mv_rz, mv_tz, mv_cns, mv_nfs, mv_fins, mv_det, mv_cc, mv_c0, Nat.reduceAdd, Nat.reduceEqDiff, Nat.reduceLT, Nat.reduceLeDiff, Nat.reduceSub, reduceIte, decide_false, decide_true, Bool.false_eq_true, List.map_cons, List.map_nil, List.sum_cons, List.sum_nil, true_and, and_true, true_or, or_true, false_or, or_false, false_and, and_false, true_implies, false_implies, implies_true, not_true_eq_false, not_false_eq_true, lg_cmp_ge, lg_cmp_le, lg_cmp_gt, lg_cmp_lt, lg_cmp_eq, qX0_boxCount, flX0s, cIX0s, cLX0s, csX0_boxCount, sX0_boxCount, ms_a, k1, e1, e3, r1, r2, r3, mv_lenK k3]
    refine ⟨fun hc => ?_, fun hc => ⟨fun hd => ?_, fun hd => ?_⟩⟩
    · rw [nI_leI (by omega) (by omega)] at hc
      obtain rfl : i = bw h x0 := by omega
      rfl
    · rw [nI_leI (by omega) (by omega)] at hc
      have := bxP_stop hd (bw h x0 - i)
      rw [show i + (bw h x0 - i) = bw h x0 by omega] at this
      rw [this]
    · rw [nI_leI (by omega) (by omega)] at hc
      refine ⟨vp_in_nI (by omega) (by omega), ?_⟩
      have := ih (by omega)
      rw [bxP, if_neg hd] at this
      rw [nI_clamp (by omega), nI_1]
      exact this
  refine mv_go hX 60 ?_
  simp only [mv_wps, mv_exq, mv_exr, mv_exn, mv_xg, mv_xpi, mv_xpl, mv_xpr, mv_xc, mv_xc2, mv_xs, mv_9z, mv_cqs, mv_calls, mv_lgz, mv_stz, mv_kz, mv_cz, mv_fvs, mv_ats, mv_ics, mv_rz, mv_tz, mv_cns, mv_nfs, mv_fins, mv_det, mv_cc, mv_c0, Nat.reduceAdd, Nat.reduceEqDiff, Nat.reduceLT, Nat.reduceLeDiff, Nat.reduceSub, reduceIte, decide_false, decide_true, Bool.false_eq_true, List.map_cons, List.map_nil, List.sum_cons, List.sum_nil, true_and, and_true, true_or, or_true, false_or, or_false, false_and, and_false, true_implies, false_implies, implies_true, not_true_eq_false, not_false_eq_true, lg_cmp_ge, lg_cmp_le, lg_cmp_gt, lg_cmp_lt, lg_cmp_eq, qX0_boxCount, flX0s, cIX0s, cLX0s, csX0_boxCount, sX0_boxCount, ms_a, k1, e1, e3, r1, r2, r3, mv_lenK k3]
  exact loop 0 (by omega)
def wdF (f : Nat → Int64) : Nat → Nat
  | 0 => 0
  | k + 1 => if f (k + 1) ≤ f (wdF f k) then wdF f k else k + 1
theorem wdF_le (f : Nat → Int64) : ∀ k, wdF f k ≤ k
  | 0 => Nat.le_refl 0
  | k + 1 => by
    have := wdF_le f k
    unfold wdF
    split <;> omega
def sX0_widest (kd : List (Nat × Nat)) : mv_S := ms_a (fun b h => boOk kd h b) (fun b h v h' => v = some (.int (nI (wdF (h.2.1 (b + 2)) (bw h b - 1)))) ∧ h' = h)
noncomputable def csX0_widest (kd : List (Nat × Nat)) : mv_CS := mv_c0
theorem oX0_widest {l : Launch} {b : Nat} {ad : Nat → Nat} {D : va_G} {cA : Nat → ClassId} {kd : List (Nat × Nat)} (had : ∀ i, i < kd.length → ad i = b + i) : mv_Own l (mv_room 0) b ad D cA kd RX0 flX0 cIX0 cLX0 (csX0_widest kd) := (mv_o0 flX0_ok cIX0_ok cLX0_ok)
set_option maxRecDepth 100000 in
set_option maxHeartbeats 4000000 in
theorem ctX0_widest {l : Launch} {b : Nat} {ad : Nat → Nat} {D : va_G} {cA : Nat → ClassId} {kd : List (Nat × Nat)} (had : ∀ i, i < kd.length → ad i = b + i) : mv_Ct l b ad D cA kd yX0_widest cX0_widest 3 (some .int) 0 (sX0_widest kd) := by
  refine mv_introF (rk := 1) tX0_widest (mv_pf plRX0) kX0_widest had ⟨(fun e => by cases e), (fun _ => rfl), (fun e => by cases e), (fun e => by cases e), (fun e => by cases e)⟩ (oX0_widest had) ?_
  intro h as hp
  obtain ⟨x0, rfl, hq⟩ := ms_a_inv hp
  refine ⟨Nat.le_of_ble_eq_true rfl, fun X hX => ?_⟩
  show X 0 [some (.ref x0), none, none] [] h
  obtain ⟨k1, k2, k3, k4, r1, r2, r3, e1, e2, e3, e4⟩ := hq
  have loop : ∀ i, i ≤ bw h x0 - 1 → X 4 [some (.ref x0), some (.int (nI (wdF (h.2.1 (x0 + 2)) i))), some (.int (nI (i + 1)))] [] h := by
    refine mv_up (bw h x0 - 1) ?_
    intro i hi ih
    have hw := wdF_le (h.2.1 (x0 + 2)) i
    refine mv_go hX 60 ?_
    simp only [mv_wps, mv_exq, mv_exr, mv_exn, mv_xg, mv_xpi, mv_xpl, mv_xpr, mv_xc, mv_xc2, mv_xs, mv_9z, mv_cqs, mv_calls, mv_lgz, mv_stz, mv_kz, mv_cz, mv_fvs, mv_ats, mv_ics, mv_rz, mv_tz, mv_cns, mv_nfs, mv_fins, mv_det, mv_cc, mv_c0, Nat.reduceAdd, Nat.reduceEqDiff, Nat.reduceLT, Nat.reduceLeDiff, Nat.reduceSub, reduceIte, decide_false, decide_true, Bool.false_eq_true, List.map_cons, List.map_nil, List.sum_cons, List.sum_nil, true_and, and_true, true_or, or_true, false_or, or_false, false_and, and_false, true_implies, false_implies, implies_true, not_true_eq_false, not_false_eq_true, lg_cmp_ge, lg_cmp_le, lg_cmp_gt, lg_cmp_lt, lg_cmp_eq, qX0_widest, flX0s, cIX0s, cLX0s, csX0_widest, sX0_widest, ms_a, k1, e1, e3, r1, r2, r3, mv_lenK k3]
    refine ⟨fun hc => ?_, fun hc => ?_⟩
    · rw [nI_leI (by omega) (by omega)] at hc
      obtain rfl : i = bw h x0 - 1 := by omega
      rfl
    · rw [nI_leI (by omega) (by omega)] at hc
      rw [nI_clamp (by omega), nI_clamp (by omega), nI_1]
      refine ⟨vp_in_nI (by omega) (by omega), vp_in_nI (by omega) (by omega), fun hd => ?_, fun hd => ?_⟩
      · have := ih (by omega)
        rw [wdF, if_pos hd] at this
        exact this
      · have := ih (by omega)
        rw [wdF, if_neg hd] at this
        exact this
  refine mv_go hX 60 ?_
  simp only [mv_wps, mv_exq, mv_exr, mv_exn, mv_xg, mv_xpi, mv_xpl, mv_xpr, mv_xc, mv_xc2, mv_xs, mv_9z, mv_cqs, mv_calls, mv_lgz, mv_stz, mv_kz, mv_cz, mv_fvs, mv_ats, mv_ics, mv_rz, mv_tz, mv_cns, mv_nfs, mv_fins, mv_det, mv_cc, mv_c0, Nat.reduceAdd, Nat.reduceEqDiff, Nat.reduceLT, Nat.reduceLeDiff, Nat.reduceSub, reduceIte, decide_false, decide_true, Bool.false_eq_true, List.map_cons, List.map_nil, List.sum_cons, List.sum_nil, true_and, and_true, true_or, or_true, false_or, or_false, false_and, and_false, true_implies, false_implies, implies_true, not_true_eq_false, not_false_eq_true, lg_cmp_ge, lg_cmp_le, lg_cmp_gt, lg_cmp_lt, lg_cmp_eq, qX0_widest, flX0s, cIX0s, cLX0s, csX0_widest, sX0_widest, ms_a, k1, e1, e3, r1, r2, r3, mv_lenK k3]
  exact loop 0 (by omega)
/-! a row noted -/
def plF (sp lo x : Nat → Int64) : Nat → Int64
  | 0 => 0
  | k + 1 => plF sp lo x k * sp k + x k - lo k
def keyOf (s pl : Int64) : Int64 := s <<< ((19 : Int32).toInt64 &&& 63) + pl
def boNote (h : mv_M) (b x : Nat) (s : Int64) : mv_M := mv_si (mv_sl h (b + 3) (bc h b) (keyOf s (plF (h.2.1 (b + 2)) (h.2.1 (b + 1)) (h.2.1 x) (bw h b)))) b 1 (nI (bc h b + 1))
def sX0_note (kd : List (Nat × Nat)) : mv_S := ms_ala (fun b _ x h => boOk kd h b ∧ mv_k kd x = (2, 4)) (fun b s x h v h' => (v = some (.int (if bc h b < 1000 then 1 else 0))) ∧ h' = if bc h b < 1000 then boNote h b x s else h)
noncomputable def csX0_note (kd : List (Nat × Nat)) : mv_CS := mv_c0
theorem oX0_note {l : Launch} {b : Nat} {ad : Nat → Nat} {D : va_G} {cA : Nat → ClassId} {kd : List (Nat × Nat)} (had : ∀ i, i < kd.length → ad i = b + i) : mv_Own l (mv_room 0) b ad D cA kd RX0 flX0 cIX0 cLX0 (csX0_note kd) := (mv_o0 flX0_ok cIX0_ok cLX0_ok)
set_option maxRecDepth 100000 in
set_option maxHeartbeats 4000000 in
theorem ctX0_note {l : Launch} {b : Nat} {ad : Nat → Nat} {D : va_G} {cA : Nat → ClassId} {kd : List (Nat × Nat)} (had : ∀ i, i < kd.length → ad i = b + i) : mv_Ct l b ad D cA kd yX0_note cX0_note 7 (some .boolean) 0 (sX0_note kd) := by
  refine mv_introF (rk := 2) tX0_note (mv_pf plRX0) kX0_note had ⟨(fun e => by cases e), (fun e => by cases e), (fun _ => rfl), (fun e => by cases e), (fun e => by cases e)⟩ (oX0_note had) ?_
  intro h as hp
  obtain ⟨x0, x1, x2, rfl, hq⟩ := ms_ala_inv hp
  refine ⟨Nat.le_of_ble_eq_true rfl, fun X hX => ?_⟩
  show X 0 [some (.ref x0), some (.long x1), none, some (.ref x2), none, none, none] [] h
  obtain ⟨⟨k1, k2, k3, k4, r1, r2, r3, e1, e2, e3, e4⟩, kx⟩ := hq
  have hx2 : (mv_k kd x2).1 = 2 ∧ (mv_k kd x2).2 = 4 := by rw [kx]; exact ⟨rfl, rfl⟩
  have hy2 : (mv_k kd (x0 + 3)).1 = 2 ∧ (mv_k kd (x0 + 3)).2 = 1000 := by rw [k4]; exact ⟨rfl, rfl⟩
  have loop : bc h x0 < 1000 → ∀ i, i ≤ bw h x0 → X 27 [some (.ref x0), some (.long x1), none, some (.ref x2), some (.long (plF (h.2.1 (x0 + 2)) (h.2.1 (x0 + 1)) (h.2.1 x2) i)), none, some (.int (nI i))] [] h := by
    intro hlt
    refine mv_up (bw h x0) ?_
    intro i hi ih
    refine mv_go hX 80 ?_
    simp only [mv_wps, mv_exq, mv_exr, mv_exn, mv_xg, mv_xpi, mv_xpl, mv_xpr, mv_xc, mv_xc2, mv_xs, mv_9z, mv_cqs, mv_calls, mv_lgz, mv_stz, mv_kz, mv_cz, mv_fvs, mv_ats, mv_ics, mv_rz, mv_tz, mv_cns, mv_nfs, mv_fins, mv_det, mv_cc, mv_c0, Nat.reduceAdd, Nat.reduceEqDiff, Nat.reduceLT, Nat.reduceLeDiff, Nat.reduceSub, reduceIte, decide_false, decide_true, Bool.false_eq_true, List.map_cons, List.map_nil, List.sum_cons, List.sum_nil, true_and, and_true, true_or, or_true, false_or, or_false, false_and, and_false, true_implies, false_implies, implies_true, not_true_eq_false, not_false_eq_true, lg_cmp_ge, lg_cmp_le, lg_cmp_gt, lg_cmp_lt, lg_cmp_eq, qX0_note, flX0s, cIX0s, cLX0s, csX0_note, sX0_note, ms_ala, k1, e1, e3, r1, r2, r3, mv_lenK k2, mv_lenK k3, mv_lenK k4, mv_lenK kx, hx2.1, hx2.2, hy2.1, hy2.2, mv_slR]
    refine ⟨fun hc => ?_, fun hc => ⟨fun hd => ?_, fun hd => ?_⟩⟩
    · rw [nI_leI (by omega) (by omega)] at hc
      obtain rfl : i = bw h x0 := by omega
      rw [nI_clamp (by omega), nI_1, if_pos hlt, if_pos hlt]
      exact ⟨vp_in_nI (by omega) (by omega), rfl, rfl⟩
    · have hd : nI 4 ≤ nI i := hd
      rw [nI_leI (by omega) (by omega)] at hd hc
      omega
    · rw [nI_leI (by omega) (by omega)] at hc
      have hin : vp_in (nI i) 4 := vp_in_nI (by omega) (by omega)
      refine ⟨hin, hin, hin, ?_⟩
      have := ih (by omega)
      rw [nI_clamp (by omega), nI_1]
      exact this
  refine mv_go hX 80 ?_
  have hpos : ¬ nI (bc h x0) < 0 := nI_pos (by omega)
  simp only [mv_wps, mv_exq, mv_exr, mv_exn, mv_xg, mv_xpi, mv_xpl, mv_xpr, mv_xc, mv_xc2, mv_xs, mv_9z, mv_cqs, mv_calls, mv_lgz, mv_stz, mv_kz, mv_cz, mv_fvs, mv_ats, mv_ics, mv_rz, mv_tz, mv_cns, mv_nfs, mv_fins, mv_det, mv_cc, mv_c0, Nat.reduceAdd, Nat.reduceEqDiff, Nat.reduceLT, Nat.reduceLeDiff, Nat.reduceSub, reduceIte, decide_false, decide_true, Bool.false_eq_true, List.map_cons, List.map_nil, List.sum_cons, List.sum_nil, true_and, and_true, true_or, or_true, false_or, or_false, false_and, and_false, true_implies, false_implies, implies_true, not_true_eq_false, not_false_eq_true, lg_cmp_ge, lg_cmp_le, lg_cmp_gt, lg_cmp_lt, lg_cmp_eq, qX0_note, flX0s, cIX0s, cLX0s, csX0_note, sX0_note, ms_ala, k1, e1, e3, r1, r2, r3, hy2.1, hy2.2, hpos]
  refine ⟨fun hc => ?_, fun hc => ?_⟩
  · have hc : nI (bc h x0) < nI 1000 := hc
    rw [nI_ltI (by omega) (by omega)] at hc
    exact loop hc 0 (by omega)
  · have hc : ¬ nI (bc h x0) < nI 1000 := hc
    rw [nI_ltI (by omega) (by omega)] at hc
    rw [if_neg hc, if_neg hc]
    exact ⟨rfl, rfl⟩
