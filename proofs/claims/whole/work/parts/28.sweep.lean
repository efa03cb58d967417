/-! The sweep: its numbers, roots, floors, small steps. -/
def flO (a b : Int64) : Int64 := if b ≤ 0 then 0 else jFd a b
def sX5_floorOf (_ : List (Nat × Nat)) : mv_S := ms_ll (fun _ _ _ => True) (fun a b h v h' => v = some (.long (flO a b)) ∧ h' = h)
noncomputable def csX5_floorOf (kd : List (Nat × Nat)) : mv_CS := (mv_cc 176 99 2 (sJ9_floorDiv_f86c9 kd) mv_c0)
theorem oX5_floorOf {l : Launch} {b : Nat} {ad : Nat → Nat} {D : va_G} {cA : Nat → ClassId} {kd : List (Nat × Nat)} (had : ∀ i, i < kd.length → ad i = b + i) : mv_Own l (mv_room 1) b ad D cA kd RX5 flX5 cIX5 cLX5 (csX5_floorOf kd) := (mv_oS lRX5_176 zJ9_floorDiv_f86c9 (ctJ9_floorDiv_f86c9 had) ⟨by decide, by decide⟩ (mv_o0 flX5_ok cIX5_ok cLX5_ok))
set_option maxRecDepth 100000 in
set_option maxHeartbeats 4000000 in
theorem ctX5_floorOf {l : Launch} {b : Nat} {ad : Nat → Nat} {D : va_G} {cA : Nat → ClassId} {kd : List (Nat × Nat)} (had : ∀ i, i < kd.length → ad i = b + i) : mv_Ct l b ad D cA kd yX5_floorOf cX5_floorOf 4 (some .long) 1 (sX5_floorOf kd) := by
  refine mv_introF (rk := 3) tX5_floorOf (mv_pf plRX5) kX5_floorOf had ⟨(fun e => by cases e), (fun e => by cases e), (fun e => by cases e), (fun _ => rfl), (fun e => by cases e)⟩ (oX5_floorOf had) ?_
  intro h as hp
  obtain ⟨x0, x1, rfl, hq⟩ := ms_ll_inv hp
  refine ⟨Nat.le_of_ble_eq_true rfl, fun X hX => ?_⟩
  show X 0 [some (.long x0), none, some (.long x1), none] [] h
  refine mv_go hX 40 ?_
  simp only [mv_wps, mv_exq, mv_exr, mv_exn, mv_xg, mv_xpi, mv_xpl, mv_xpr, mv_xc, mv_xc2, mv_xs, mv_9z, mv_cqs, mv_calls, mv_lgz, mv_stz, mv_kz, mv_cz, mv_fvs, mv_ats, mv_ics, mv_rz, mv_tz, mv_cns, mv_nfs, mv_fins, mv_det, mv_cc, mv_c0, Nat.reduceAdd, Nat.reduceEqDiff, Nat.reduceLT, Nat.reduceLeDiff, Nat.reduceSub, reduceIte, decide_false, decide_true, Bool.false_eq_true, List.map_cons, List.map_nil, List.sum_cons, List.sum_nil, true_and, and_true, true_or, or_true, false_or, or_false, false_and, and_false, true_implies, false_implies, implies_true, not_true_eq_false, not_false_eq_true, lg_cmp_ge, lg_cmp_le, lg_cmp_gt, lg_cmp_lt, lg_cmp_eq, qX5_floorOf, flX5s, cIX5s, cLX5s, csX5_floorOf, sX5_floorOf, sJ9_floorDiv_f86c9, ms_ll]
  refine ⟨fun hc => by simp [flO, hc], fun hc => ⟨fun e => hc (by rw [e]; exact Int64.le_refl 0), by simp [flO, hc]⟩⟩
def ceO (a b : Int64) : Int64 := - flO (-a) b
def sX5_ceilingOf (_ : List (Nat × Nat)) : mv_S := ms_ll (fun _ _ _ => True) (fun a b h v h' => v = some (.long (ceO a b)) ∧ h' = h)
noncomputable def csX5_ceilingOf (kd : List (Nat × Nat)) : mv_CS := (mv_cc 74 99 2 (sX5_floorOf kd) mv_c0)
theorem oX5_ceilingOf {l : Launch} {b : Nat} {ad : Nat → Nat} {D : va_G} {cA : Nat → ClassId} {kd : List (Nat × Nat)} (had : ∀ i, i < kd.length → ad i = b + i) : mv_Own l (mv_room 2) b ad D cA kd RX5 flX5 cIX5 cLX5 (csX5_ceilingOf kd) := (mv_oS lRX5_74 zX5_floorOf (ctX5_floorOf had) ⟨by decide, by decide⟩ (mv_o0 flX5_ok cIX5_ok cLX5_ok))
set_option maxRecDepth 100000 in
set_option maxHeartbeats 4000000 in
theorem ctX5_ceilingOf {l : Launch} {b : Nat} {ad : Nat → Nat} {D : va_G} {cA : Nat → ClassId} {kd : List (Nat × Nat)} (had : ∀ i, i < kd.length → ad i = b + i) : mv_Ct l b ad D cA kd yX5_ceilingOf cX5_ceilingOf 4 (some .long) 2 (sX5_ceilingOf kd) := by
  refine mv_introF (rk := 3) tX5_ceilingOf (mv_pf plRX5) kX5_ceilingOf had ⟨(fun e => by cases e), (fun e => by cases e), (fun e => by cases e), (fun _ => rfl), (fun e => by cases e)⟩ (oX5_ceilingOf had) ?_
  intro h as hp
  obtain ⟨x0, x1, rfl, hq⟩ := ms_ll_inv hp
  refine ⟨Nat.le_of_ble_eq_true rfl, fun X hX => ?_⟩
  show X 0 [some (.long x0), none, some (.long x1), none] [] h
  refine mv_go hX 40 ?_
  simp only [mv_wps, mv_exq, mv_exr, mv_exn, mv_xg, mv_xpi, mv_xpl, mv_xpr, mv_xc, mv_xc2, mv_xs, mv_9z, mv_cqs, mv_calls, mv_lgz, mv_stz, mv_kz, mv_cz, mv_fvs, mv_ats, mv_ics, mv_rz, mv_tz, mv_cns, mv_nfs, mv_fins, mv_det, mv_cc, mv_c0, Nat.reduceAdd, Nat.reduceEqDiff, Nat.reduceLT, Nat.reduceLeDiff, Nat.reduceSub, reduceIte, decide_false, decide_true, Bool.false_eq_true, List.map_cons, List.map_nil, List.sum_cons, List.sum_nil, true_and, and_true, true_or, or_true, false_or, or_false, false_and, and_false, true_implies, false_implies, implies_true, not_true_eq_false, not_false_eq_true, lg_cmp_ge, lg_cmp_le, lg_cmp_gt, lg_cmp_lt, lg_cmp_eq, qX5_ceilingOf, flX5s, cIX5s, cLX5s, csX5_ceilingOf, sX5_ceilingOf, sX5_floorOf, ms_ll]
  rfl
def rtA (v : Int64) : Nat → Int64 → Int64
  | 0, g => g
  | n + 1, g => if v ≤ g * g then g else rtA v n (g * 2)
def rtB (v : Int64) : Nat → Int64 → Int64
  | 0, g => g
  | n + 1, g => if g ≤ 0 then g else if (g + v / g) / 2 < g then rtB v n ((g + v / g) / 2) else g
def rtO (v : Int64) : Int64 := if 0 < v then rtB v 64 (rtA v 31 1) else 0
def sX5_rootOf (_ : List (Nat × Nat)) : mv_S := ms_l (fun _ _ => True) (fun x h v h' => v = some (.long (rtO x)) ∧ h' = h)
noncomputable def csX5_rootOf (kd : List (Nat × Nat)) : mv_CS := mv_c0
theorem oX5_rootOf {l : Launch} {b : Nat} {ad : Nat → Nat} {D : va_G} {cA : Nat → ClassId} {kd : List (Nat × Nat)} (had : ∀ i, i < kd.length → ad i = b + i) : mv_Own l (mv_room 0) b ad D cA kd RX5 flX5 cIX5 cLX5 (csX5_rootOf kd) := (mv_o0 flX5_ok cIX5_ok cLX5_ok)
set_option maxRecDepth 100000 in
set_option maxHeartbeats 4000000 in
theorem ctX5_rootOf {l : Launch} {b : Nat} {ad : Nat → Nat} {D : va_G} {cA : Nat → ClassId} {kd : List (Nat × Nat)} (had : ∀ i, i < kd.length → ad i = b + i) : mv_Ct l b ad D cA kd yX5_rootOf cX5_rootOf 7 (some .long) 0 (sX5_rootOf kd) := by
  refine mv_introF (rk := 3) tX5_rootOf (mv_pf plRX5) kX5_rootOf had ⟨(fun e => by cases e), (fun e => by cases e), (fun e => by cases e), (fun _ => rfl), (fun e => by cases e)⟩ (oX5_rootOf had) ?_
  intro h as hp
  obtain ⟨x0, rfl, hq⟩ := ms_l_inv hp
  refine ⟨Nat.le_of_ble_eq_true rfl, fun X hX => ?_⟩
  show X 0 [some (.long x0), none, none, none, none, none, none] [] h
  have two : ∀ n, n ≤ 64 → ∀ g, 0 < x0 → rtB x0 (64 - n) g = rtO x0 → ∀ o o', X 43 [some (.long x0), none, some (.long g), none, some (.int (nI n)), o, o'] [] h := by
    refine mv_up 64 ?_
    intro n hn ih g hpos he o o'
    refine mv_go hX 60 ?_
    simp only [mv_wps, mv_exq, mv_exr, mv_exn, mv_xg, mv_xpi, mv_xpl, mv_xpr, mv_xc, mv_xc2, mv_xs, mv_9z, mv_cqs, mv_calls, mv_lgz, mv_stz, mv_kz, mv_cz, mv_fvs, mv_ats, mv_ics, mv_rz, mv_tz, mv_cns, mv_nfs, mv_fins, mv_det, mv_cc, mv_c0, Nat.reduceAdd, Nat.reduceEqDiff, Nat.reduceLT, Nat.reduceLeDiff, Nat.reduceSub, reduceIte, decide_false, decide_true, Bool.false_eq_true, List.map_cons, List.map_nil, List.sum_cons, List.sum_nil, true_and, and_true, true_or, or_true, false_or, or_false, false_and, and_false, true_implies, false_implies, implies_true, not_true_eq_false, not_false_eq_true, lg_cmp_ge, lg_cmp_le, lg_cmp_gt, lg_cmp_lt, lg_cmp_eq, qX5_rootOf, flX5s, cIX5s, cLX5s, csX5_rootOf, sX5_rootOf, ms_l]
    refine ⟨fun hc => ?_, fun hc => ⟨fun hd => ?_, fun hd => ?_⟩⟩
    · have hc : nI 64 ≤ nI n := hc
      rw [nI_leI (by omega) (by omega)] at hc
      obtain rfl : n = 64 := by omega
      rw [Nat.sub_self, rtB] at he
      rw [he]
    · have hc : ¬ nI 64 ≤ nI n := hc
      rw [nI_leI (by omega) (by omega)] at hc
      rw [show 64 - n = (63 - n) + 1 by omega, rtB, if_pos hd] at he
      rw [he]
    · have hc : ¬ nI 64 ≤ nI n := hc
      rw [nI_leI (by omega) (by omega)] at hc
      rw [show 64 - n = (63 - n) + 1 by omega, rtB, if_neg hd] at he
      refine ⟨fun e => hd (by rw [e]; exact Int64.le_refl 0), by decide, fun hs => ?_, fun hs => ?_⟩
      · rw [if_pos hs] at he
        rw [nI_1]
        refine ih (by omega) _ hpos ?_ _ _
        rw [show 64 - (n + 1) = 63 - n by omega]
        exact he
      · rw [if_neg hs] at he
        rw [he]
  have one : ∀ n, n ≤ 31 → ∀ g, 0 < x0 → rtA x0 (31 - n) g = rtA x0 31 1 → ∀ o o', X 13 [some (.long x0), none, some (.long g), none, some (.int (nI n)), o, o'] [] h := by
    refine mv_up 31 ?_
    intro n hn ih g hpos he o o'
    have fin : ∀ g', g' = rtA x0 31 1 → X 43 [some (.long x0), none, some (.long g'), none, some (.int 0), o, o'] [] h := by
      intro g' hg
      exact two 0 (by omega) g' hpos (by rw [rtO, if_pos hpos, hg]) o o'
    refine mv_go hX 60 ?_
    simp only [mv_wps, mv_exq, mv_exr, mv_exn, mv_xg, mv_xpi, mv_xpl, mv_xpr, mv_xc, mv_xc2, mv_xs, mv_9z, mv_cqs, mv_calls, mv_lgz, mv_stz, mv_kz, mv_cz, mv_fvs, mv_ats, mv_ics, mv_rz, mv_tz, mv_cns, mv_nfs, mv_fins, mv_det, mv_cc, mv_c0, Nat.reduceAdd, Nat.reduceEqDiff, Nat.reduceLT, Nat.reduceLeDiff, Nat.reduceSub, reduceIte, decide_false, decide_true, Bool.false_eq_true, List.map_cons, List.map_nil, List.sum_cons, List.sum_nil, true_and, and_true, true_or, or_true, false_or, or_false, false_and, and_false, true_implies, false_implies, implies_true, not_true_eq_false, not_false_eq_true, lg_cmp_ge, lg_cmp_le, lg_cmp_gt, lg_cmp_lt, lg_cmp_eq, qX5_rootOf, flX5s, cIX5s, cLX5s, csX5_rootOf, sX5_rootOf, ms_l]
    refine ⟨fun hc => ?_, fun hc => ⟨fun hd => ?_, fun hd => ?_⟩⟩
    · have hc : nI 31 ≤ nI n := hc
      rw [nI_leI (by omega) (by omega)] at hc
      obtain rfl : n = 31 := by omega
      rw [Nat.sub_self, rtA] at he
      exact fin _ he
    · have hc : ¬ nI 31 ≤ nI n := hc
      rw [nI_leI (by omega) (by omega)] at hc
      rw [show 31 - n = (30 - n) + 1 by omega, rtA, if_pos hd] at he
      exact fin _ he
    · have hc : ¬ nI 31 ≤ nI n := hc
      rw [nI_leI (by omega) (by omega)] at hc
      rw [show 31 - n = (30 - n) + 1 by omega, rtA, if_neg hd] at he
      rw [nI_1]
      refine ih (by omega) _ hpos ?_ _ _
      rw [show 31 - (n + 1) = 30 - n by omega]
      exact he
  refine mv_go hX 60 ?_
  simp only [mv_wps, mv_exq, mv_exr, mv_exn, mv_xg, mv_xpi, mv_xpl, mv_xpr, mv_xc, mv_xc2, mv_xs, mv_9z, mv_cqs, mv_calls, mv_lgz, mv_stz, mv_kz, mv_cz, mv_fvs, mv_ats, mv_ics, mv_rz, mv_tz, mv_cns, mv_nfs, mv_fins, mv_det, mv_cc, mv_c0, Nat.reduceAdd, Nat.reduceEqDiff, Nat.reduceLT, Nat.reduceLeDiff, Nat.reduceSub, reduceIte, decide_false, decide_true, Bool.false_eq_true, List.map_cons, List.map_nil, List.sum_cons, List.sum_nil, true_and, and_true, true_or, or_true, false_or, or_false, false_and, and_false, true_implies, false_implies, implies_true, not_true_eq_false, not_false_eq_true, lg_cmp_ge, lg_cmp_le, lg_cmp_gt, lg_cmp_lt, lg_cmp_eq, qX5_rootOf, flX5s, cIX5s, cLX5s, csX5_rootOf, sX5_rootOf, ms_l]
  refine ⟨fun hc => ?_, fun hc => ?_⟩
  · exact one 0 (by omega) 1 hc rfl _ _
  · simp [rtO, hc]
def swOk (kd : List (Nat × Nat)) (h : mv_M) (w : Nat) : Prop := mv_k kd w = (0, 5) ∧ mv_k kd (w + 3) = (2, 4) ∧ mv_k kd (w + 4) = (2, 4) ∧ mv_k kd (w + 5) = (2, 4) ∧ h.2.2 w 7 = some (w + 1) ∧ h.2.2 w 8 = some (w + 3) ∧ h.2.2 w 9 = some (w + 4) ∧ h.2.2 w 10 = some (w + 5) ∧ gOk kd h (w + 1)
theorem vpD {n : Nat} (h1 : 3 < n) (h2 : n < 2 ^ 31) : vp_in 0 n ∧ vp_in 1 n ∧ vp_in 2 n ∧ vp_in 3 n :=
  ⟨vp_in_nI (n := 0) (by omega) h2, vp_in_nI (n := 1) (by omega) h2, vp_in_nI (n := 2) (by omega) h2, vp_in_nI (n := 3) (by omega) h2⟩
def swAim (h : mv_M) (w : Nat) (a b c d : Int32) : mv_M := mv_sl (mv_sl (mv_sl (mv_sl h (w + 3) 0 a.toInt64) (w + 3) 1 b.toInt64) (w + 3) 2 c.toInt64) (w + 3) 3 d.toInt64
def sX5_aimAt (kd : List (Nat × Nat)) : mv_S := ms_aiiii (fun w _ _ _ _ h => swOk kd h w) (fun w a b c d h v h' => v = none ∧ h' = swAim h w a b c d)
noncomputable def csX5_aimAt (kd : List (Nat × Nat)) : mv_CS := mv_c0
theorem oX5_aimAt {l : Launch} {b : Nat} {ad : Nat → Nat} {D : va_G} {cA : Nat → ClassId} {kd : List (Nat × Nat)} (had : ∀ i, i < kd.length → ad i = b + i) : mv_Own l (mv_room 0) b ad D cA kd RX5 flX5 cIX5 cLX5 (csX5_aimAt kd) := (mv_o0 flX5_ok cIX5_ok cLX5_ok)
set_option maxRecDepth 100000 in
set_option maxHeartbeats 4000000 in
theorem ctX5_aimAt {l : Launch} {b : Nat} {ad : Nat → Nat} {D : va_G} {cA : Nat → ClassId} {kd : List (Nat × Nat)} (had : ∀ i, i < kd.length → ad i = b + i) : mv_Ct l b ad D cA kd yX5_aimAt cX5_aimAt 5 none 0 (sX5_aimAt kd) := by
  refine mv_introF (rk := 0) tX5_aimAt (mv_pf plRX5) kX5_aimAt had ⟨(fun _ => rfl), (fun e => by cases e), (fun e => by cases e), (fun e => by cases e), (fun e => by cases e)⟩ (oX5_aimAt had) ?_
  intro h as hp
  obtain ⟨x0, x1, x2, x3, x4, rfl, hq⟩ := ms_aiiii_inv hp
  refine ⟨Nat.le_of_ble_eq_true rfl, fun X hX => ?_⟩
  show X 0 [some (.ref x0), some (.int x1), some (.int x2), some (.int x3), some (.int x4)] [] h
  obtain ⟨k1, k2, k3, k4, r1, r2, r3, r4, g1⟩ := hq
  have hv := vpD (n := 4) (by omega) (by omega)
  refine mv_go hX 60 ?_
  simp only [mv_wps, mv_exq, mv_exr, mv_exn, mv_xg, mv_xpi, mv_xpl, mv_xpr, mv_xc, mv_xc2, mv_xs, mv_9z, mv_cqs, mv_calls, mv_lgz, mv_stz, mv_kz, mv_cz, mv_fvs, mv_ats, mv_ics, mv_rz, mv_tz, mv_cns, mv_nfs, mv_fins, mv_det, mv_cc, mv_c0, Nat.reduceAdd, Nat.reduceEqDiff, Nat.reduceLT, Nat.reduceLeDiff, Nat.reduceSub, reduceIte, decide_false, decide_true, Bool.false_eq_true, List.map_cons, List.map_nil, List.sum_cons, List.sum_nil, true_and, and_true, true_or, or_true, false_or, or_false, false_and, and_false, true_implies, false_implies, implies_true, not_true_eq_false, not_false_eq_true, lg_cmp_ge, lg_cmp_le, lg_cmp_gt, lg_cmp_lt, lg_cmp_eq, qX5_aimAt, flX5s, cIX5s, cLX5s, csX5_aimAt, sX5_aimAt, ms_aiiii, k1, r1, r2, r3, r4, mv_lenK k2, hv, mv_slR, clampC]
  rfl
def swNear (h : mv_M) (w n : Nat) : Prop := ∀ i, i < n → ¬ h.2.1 (w + 3) i < -6000 ∧ h.2.1 (w + 3) i ≤ 6000
noncomputable def sX5_aimIsNear (kd : List (Nat × Nat)) : mv_S := ms_ai (fun w n h => swOk kd h w ∧ isN n 5) (fun w n h v h' => v = some (.int (b01 (swNear h w n.toNatClampNeg))) ∧ h' = h)
noncomputable def csX5_aimIsNear (kd : List (Nat × Nat)) : mv_CS := mv_c0
theorem oX5_aimIsNear {l : Launch} {b : Nat} {ad : Nat → Nat} {D : va_G} {cA : Nat → ClassId} {kd : List (Nat × Nat)} (had : ∀ i, i < kd.length → ad i = b + i) : mv_Own l (mv_room 0) b ad D cA kd RX5 flX5 cIX5 cLX5 (csX5_aimIsNear kd) := (mv_o0 flX5_ok cIX5_ok cLX5_ok)
set_option maxRecDepth 100000 in
set_option maxHeartbeats 4000000 in
theorem ctX5_aimIsNear {l : Launch} {b : Nat} {ad : Nat → Nat} {D : va_G} {cA : Nat → ClassId} {kd : List (Nat × Nat)} (had : ∀ i, i < kd.length → ad i = b + i) : mv_Ct l b ad D cA kd yX5_aimIsNear cX5_aimIsNear 3 (some .boolean) 0 (sX5_aimIsNear kd) := by
  refine mv_introF (rk := 2) tX5_aimIsNear (mv_pf plRX5) kX5_aimIsNear had ⟨(fun e => by cases e), (fun e => by cases e), (fun _ => rfl), (fun e => by cases e), (fun e => by cases e)⟩ (oX5_aimIsNear had) ?_
  intro h as hp
  obtain ⟨x0, x1, rfl, hq⟩ := ms_ai_inv hp
  refine ⟨Nat.le_of_ble_eq_true rfl, fun X hX => ?_⟩
  show X 0 [some (.ref x0), some (.int x1), none] [] h
  obtain ⟨⟨k1, k2, k3, k4, r1, r2, r3, r4, g1⟩, ⟨e5, h5⟩⟩ := hq
  generalize hi : x1.toNatClampNeg = n at e5 h5
  subst e5
  have loop : ∀ i, i ≤ n → (∀ j, j < i → ¬ h.2.1 (x0 + 3) j < -6000 ∧ h.2.1 (x0 + 3) j ≤ 6000) → X 2 [some (.ref x0), some (.int (nI n)), some (.int (nI i))] [] h := by
    refine mv_up n ?_
    intro i hi1 ih hall
    refine mv_go hX 60 ?_
    simp only [mv_wps, mv_exq, mv_exr, mv_exn, mv_xg, mv_xpi, mv_xpl, mv_xpr, mv_xc, mv_xc2, mv_xs, mv_9z, mv_cqs, mv_calls, mv_lgz, mv_stz, mv_kz, mv_cz, mv_fvs, mv_ats, mv_ics, mv_rz, mv_tz, mv_cns, mv_nfs, mv_fins, mv_det, mv_cc, mv_c0, Nat.reduceAdd, Nat.reduceEqDiff, Nat.reduceLT, Nat.reduceLeDiff, Nat.reduceSub, reduceIte, decide_false, decide_true, Bool.false_eq_true, List.map_cons, List.map_nil, List.sum_cons, List.sum_nil, true_and, and_true, true_or, or_true, false_or, or_false, false_and, and_false, true_implies, false_implies, implies_true, not_true_eq_false, not_false_eq_true, lg_cmp_ge, lg_cmp_le, lg_cmp_gt, lg_cmp_lt, lg_cmp_eq, qX5_aimIsNear, flX5s, cIX5s, cLX5s, csX5_aimIsNear, sX5_aimIsNear, ms_ai, k1, r1, r2, r3, r4, mv_lenK k2]
    rw [nI_clamp (n := i) (by omega), hi]
    refine ⟨fun hc => ?_, fun hc => ⟨fun hd => ?_, fun hd => ?_⟩⟩
    · rw [nI_leI (by omega) (by omega)] at hc
      obtain rfl : i = n := by omega
      rw [b01_t (p := swNear h x0 i) hall]
    · have hd : nI 4 ≤ nI i := hd
      rw [nI_leI (by omega) (by omega)] at hd hc
      omega
    · rw [nI_leI (by omega) (by omega)] at hc
      have hin : vp_in (nI i) 4 := vp_in_nI (by omega) (by omega)
      refine ⟨hin, fun h1 => by rw [b01_f (p := swNear h x0 n) (fun z => (z i (by omega)).1 h1)], fun h1 => ⟨hin, fun h2 => ?_, fun h2 => by rw [b01_f (p := swNear h x0 n) (fun z => h2 (z i (by omega)).2)]⟩⟩
      rw [nI_1]
      refine ih (by omega) (fun j hj => ?_)
      by_cases hji : j = i
      · subst hji; exact ⟨h1, h2⟩
      · exact hall j (by omega)
  refine mv_go hX 60 ?_
  simp only [mv_wps, mv_exq, mv_exr, mv_exn, mv_xg, mv_xpi, mv_xpl, mv_xpr, mv_xc, mv_xc2, mv_xs, mv_9z, mv_cqs, mv_calls, mv_lgz, mv_stz, mv_kz, mv_cz, mv_fvs, mv_ats, mv_ics, mv_rz, mv_tz, mv_cns, mv_nfs, mv_fins, mv_det, mv_cc, mv_c0, Nat.reduceAdd, Nat.reduceEqDiff, Nat.reduceLT, Nat.reduceLeDiff, Nat.reduceSub, reduceIte, decide_false, decide_true, Bool.false_eq_true, List.map_cons, List.map_nil, List.sum_cons, List.sum_nil, true_and, and_true, true_or, or_true, false_or, or_false, false_and, and_false, true_implies, false_implies, implies_true, not_true_eq_false, not_false_eq_true, lg_cmp_ge, lg_cmp_le, lg_cmp_gt, lg_cmp_lt, lg_cmp_eq, qX5_aimIsNear, flX5s, cIX5s, cLX5s, csX5_aimIsNear, sX5_aimIsNear, ms_ai, k1]
  exact loop 0 (by omega) (fun j z => absurd z (by omega))
def swNum (h : mv_M) (w : Nat) (i : Int32) (x : Int64) : mv_M := if inR 4 i then mv_sl (mv_sl h (w + 4) i.toNatClampNeg x) (w + 5) i.toNatClampNeg (if i = h.1 w 1 then 0 else (h.1 w 0).toInt64 * x - h.2.1 (w + 3) i.toNatClampNeg) else h
def sX5_setNumber (kd : List (Nat × Nat)) : mv_S := ms_ail (fun w _ _ h => swOk kd h w) (fun w i x h v h' => v = none ∧ h' = swNum h w i x)
noncomputable def csX5_setNumber (kd : List (Nat × Nat)) : mv_CS := mv_c0
theorem oX5_setNumber {l : Launch} {b : Nat} {ad : Nat → Nat} {D : va_G} {cA : Nat → ClassId} {kd : List (Nat × Nat)} (had : ∀ i, i < kd.length → ad i = b + i) : mv_Own l (mv_room 0) b ad D cA kd RX5 flX5 cIX5 cLX5 (csX5_setNumber kd) := (mv_o0 flX5_ok cIX5_ok cLX5_ok)
set_option maxRecDepth 100000 in
set_option maxHeartbeats 4000000 in
theorem ctX5_setNumber {l : Launch} {b : Nat} {ad : Nat → Nat} {D : va_G} {cA : Nat → ClassId} {kd : List (Nat × Nat)} (had : ∀ i, i < kd.length → ad i = b + i) : mv_Ct l b ad D cA kd yX5_setNumber cX5_setNumber 4 none 0 (sX5_setNumber kd) := by
  refine mv_introF (rk := 0) tX5_setNumber (mv_pf plRX5) kX5_setNumber had ⟨(fun _ => rfl), (fun e => by cases e), (fun e => by cases e), (fun e => by cases e), (fun e => by cases e)⟩ (oX5_setNumber had) ?_
  intro h as hp
  obtain ⟨x0, x1, x2, rfl, hq⟩ := ms_ail_inv hp
  refine ⟨Nat.le_of_ble_eq_true rfl, fun X hX => ?_⟩
  show X 0 [some (.ref x0), some (.int x1), some (.long x2), none] [] h
  obtain ⟨k1, k2, k3, k4, r1, r2, r3, r4, g1⟩ := hq
  have e3 : ∀ k v, (mv_sl h (x0 + 4) k v).2.1 (x0 + 3) = h.2.1 (x0 + 3) := fun k v => by
    funext j
    have : ¬ x0 + 3 = x0 + 4 := by omega
    simp [mv_sl, this]
  refine mv_go hX 60 ?_
  simp only [mv_wps, mv_exq, mv_exr, mv_exn, mv_xg, mv_xpi, mv_xpl, mv_xpr, mv_xc, mv_xc2, mv_xs, mv_9z, mv_cqs, mv_calls, mv_lgz, mv_stz, mv_kz, mv_cz, mv_fvs, mv_ats, mv_ics, mv_rz, mv_tz, mv_cns, mv_nfs, mv_fins, mv_det, mv_cc, mv_c0, Nat.reduceAdd, Nat.reduceEqDiff, Nat.reduceLT, Nat.reduceLeDiff, Nat.reduceSub, reduceIte, decide_false, decide_true, Bool.false_eq_true, List.map_cons, List.map_nil, List.sum_cons, List.sum_nil, true_and, and_true, true_or, or_true, false_or, or_false, false_and, and_false, true_implies, false_implies, implies_true, not_true_eq_false, not_false_eq_true, lg_cmp_ge, lg_cmp_le, lg_cmp_gt, lg_cmp_lt, lg_cmp_eq, qX5_setNumber, flX5s, cIX5s, cLX5s, csX5_setNumber, sX5_setNumber, ms_ail, k1, r1, r2, r3, r4, mv_lenK k2, mv_lenK k3, mv_lenK k4, mv_slR, e3]
  refine ⟨fun h1 => by simp [swNum, inR, h1], fun h1 => ⟨fun h2 => ?_, fun h2 => ?_⟩⟩
  · have hr : ¬ inR 4 x1 := fun z => z.2 h2
    rw [swNum, if_neg hr]
  · have hr : inR 4 x1 := ⟨h1, h2⟩
    have hv := inR_vp hr (Nat.le_refl 4) (by omega)
    refine ⟨hv, fun h3 => ⟨hv, hv, ?_⟩, fun h3 => ⟨hv, ?_⟩⟩
    · rw [swNum, if_pos hr, if_neg h3]
    · rw [swNum, if_pos hr, if_pos (Classical.not_not.mp h3)]
def swSize (h : mv_M) (w : Nat) (y : Int64) : Int64 := (h.2.1 w 2 * y + 2 * h.2.1 w 3) * y + h.2.1 w 4
def sX5_sizeFor (kd : List (Nat × Nat)) : mv_S := ms_al (fun w _ h => swOk kd h w) (fun w y h v h' => v = some (.long (swSize h w y)) ∧ h' = h)
noncomputable def csX5_sizeFor (kd : List (Nat × Nat)) : mv_CS := mv_c0
theorem oX5_sizeFor {l : Launch} {b : Nat} {ad : Nat → Nat} {D : va_G} {cA : Nat → ClassId} {kd : List (Nat × Nat)} (had : ∀ i, i < kd.length → ad i = b + i) : mv_Own l (mv_room 0) b ad D cA kd RX5 flX5 cIX5 cLX5 (csX5_sizeFor kd) := (mv_o0 flX5_ok cIX5_ok cLX5_ok)
set_option maxRecDepth 100000 in
set_option maxHeartbeats 4000000 in
theorem ctX5_sizeFor {l : Launch} {b : Nat} {ad : Nat → Nat} {D : va_G} {cA : Nat → ClassId} {kd : List (Nat × Nat)} (had : ∀ i, i < kd.length → ad i = b + i) : mv_Ct l b ad D cA kd yX5_sizeFor cX5_sizeFor 3 (some .long) 0 (sX5_sizeFor kd) := by
  refine mv_introF (rk := 3) tX5_sizeFor (mv_pf plRX5) kX5_sizeFor had ⟨(fun e => by cases e), (fun e => by cases e), (fun e => by cases e), (fun _ => rfl), (fun e => by cases e)⟩ (oX5_sizeFor had) ?_
  intro h as hp
  obtain ⟨x0, x1, rfl, hq⟩ := ms_al_inv hp
  refine ⟨Nat.le_of_ble_eq_true rfl, fun X hX => ?_⟩
  show X 0 [some (.ref x0), some (.long x1), none] [] h
  refine mv_go hX 60 ?_
  simp only [mv_wps, mv_exq, mv_exr, mv_exn, mv_xg, mv_xpi, mv_xpl, mv_xpr, mv_xc, mv_xc2, mv_xs, mv_9z, mv_cqs, mv_calls, mv_lgz, mv_stz, mv_kz, mv_cz, mv_fvs, mv_ats, mv_ics, mv_rz, mv_tz, mv_cns, mv_nfs, mv_fins, mv_det, mv_cc, mv_c0, Nat.reduceAdd, Nat.reduceEqDiff, Nat.reduceLT, Nat.reduceLeDiff, Nat.reduceSub, reduceIte, decide_false, decide_true, Bool.false_eq_true, List.map_cons, List.map_nil, List.sum_cons, List.sum_nil, true_and, and_true, true_or, or_true, false_or, or_false, false_and, and_false, true_implies, false_implies, implies_true, not_true_eq_false, not_false_eq_true, lg_cmp_ge, lg_cmp_le, lg_cmp_gt, lg_cmp_lt, lg_cmp_eq, qX5_sizeFor, flX5s, cIX5s, cLX5s, csX5_sizeFor, sX5_sizeFor, ms_al, hq.1]
  rfl
