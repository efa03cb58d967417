/-! The hunt: a row held. -/
def hdF (h : mv_M) (u r k : Nat) : Nat → Int64 := fun j => if j < k then (h.1 (u + 8) (r * 4 + j)).toInt64 else h.2.1 (u + 9) j
def plF2 (h : mv_M) (u lv : Nat) (x : Nat → Int64) (k : Nat) : Nat → Int64 := fun j => if lv * 4 ≤ j ∧ j < lv * 4 + k then lnB h (u + 1) x (nI (j - lv * 4)) else h.2.1 (u + 10) j
def huH (h : mv_M) (u r lv : Nat) : mv_M := fillA (fillA (mv_si h (u + 7) lv (nI r)) (u + 9) (hdF h u r 4)) (u + 10) (plF2 h u lv (hdF h u r 4) 4)
def sX2_hold (kd : List (Nat × Nat)) : mv_S := ms_aii (fun u r lv h => huOk kd h u ∧ isN r 1000 ∧ isN lv 4) (fun u r lv h v h' => v = none ∧ h' = huH h u r.toNatClampNeg lv.toNatClampNeg)
noncomputable def csX2_hold (kd : List (Nat × Nat)) : mv_CS := (mv_cc 94 2 2 (sX2_numberOf kd) (mv_cc 110 1 2 (sX1_lineBy kd) mv_c0))
theorem oX2_hold {l : Launch} {b : Nat} {ad : Nat → Nat} {D : va_G} {cA : Nat → ClassId} {kd : List (Nat × Nat)} (had : ∀ i, i < kd.length → ad i = b + i) : mv_Own l (mv_room 1) b ad D cA kd RX2 flX2 cIX2 cLX2 (csX2_hold kd) := (mv_oV lRX2_94 zX2_numberOf rfl (by decide) (ctX2_numberOf had) ⟨by decide, by decide⟩ (mv_oV lRX2_110 zX1_lineBy rfl (by decide) (ctX1_lineBy had) ⟨by decide, by decide⟩ (mv_o0 flX2_ok cIX2_ok cLX2_ok)))
set_option maxRecDepth 100000 in
set_option maxHeartbeats 4000000 in
theorem ctX2_hold {l : Launch} {b : Nat} {ad : Nat → Nat} {D : va_G} {cA : Nat → ClassId} {kd : List (Nat × Nat)} (had : ∀ i, i < kd.length → ad i = b + i) : mv_Ct l b ad D cA kd yX2_hold cX2_hold 4 none 1 (sX2_hold kd) := by
  refine mv_introF (rk := 0) tX2_hold (mv_pf plRX2) kX2_hold had ⟨(fun _ => rfl), (fun e => by cases e), (fun e => by cases e), (fun e => by cases e), (fun e => by cases e)⟩ (oX2_hold had) ?_
  intro h as hp
  obtain ⟨x0, x1, x2, rfl, hq⟩ := ms_aii_inv hp
  refine ⟨Nat.le_of_ble_eq_true rfl, fun X hX => ?_⟩
  show X 0 [some (.ref x0), some (.int x1), some (.int x2), none] [] h
  obtain ⟨hu, ⟨e1, h1⟩, ⟨e2, h2⟩⟩ := hq
  obtain ⟨⟨k1, k2, k3, k4, k5, k6, k7⟩, ⟨r1, r2, r3, r4, r5, r6, r7, r8⟩, g1, g2⟩ := id hu
  generalize hr : x1.toNatClampNeg = r at e1 h1
  generalize hl : x2.toNatClampNeg = lv at e2 h2
  subst e1
  subst e2
  have n7 : x0 + 1 ≠ x0 + 7 := by omega
  have hgS : ∀ v f, gOk kd (fillA (mv_si h (x0 + 7) lv v) (x0 + 9) f) (x0 + 1) := fun v f => by
    obtain ⟨q1, q2, q3, q4, q5⟩ := g1
    have w1 : (fillA (mv_si h (x0 + 7) lv v) (x0 + 9) f).1 (x0 + 1) 0 = h.1 (x0 + 1) 0 := by simp [fillA, mv_si]
    have w2 : gn (fillA (mv_si h (x0 + 7) lv v) (x0 + 9) f) (x0 + 1) = gn h (x0 + 1) := congrArg Int32.toNatClampNeg w1
    exact ⟨q1, q2, q3, by rw [w1, w2]; exact q4, by rw [w2]; exact q5⟩
  have hgT : ∀ v f, gOk kd (fillA (mv_si h (x0 + 7) lv v) (x0 + 9) f) (x0 + 3) := fun v f => by
    obtain ⟨q1, q2, q3, q4, q5⟩ := g2
    have w1 : (fillA (mv_si h (x0 + 7) lv v) (x0 + 9) f).1 (x0 + 3) 0 = h.1 (x0 + 3) 0 := by simp [fillA, mv_si]
    have w2 : gn (fillA (mv_si h (x0 + 7) lv v) (x0 + 9) f) (x0 + 3) = gn h (x0 + 3) := congrArg Int32.toNatClampNeg w1
    exact ⟨q1, q2, q3, by rw [w1, w2]; exact q4, by rw [w2]; exact q5⟩
  have hok : ∀ v f, huOk kd (fillA (mv_si h (x0 + 7) lv v) (x0 + 9) f) x0 := fun v f => ⟨⟨k1, k2, k3, k4, k5, k6, k7⟩, ⟨r1, r2, r3, r4, r5, r6, r7, r8⟩, hgS v f, hgT v f⟩
  have hNm : ∀ v f k, k < 4 → huN (fillA (mv_si h (x0 + 7) lv v) (x0 + 9) f) x0 (nI r) (nI k) = h.1 (x0 + 8) (r * 4 + k) := fun v f k hk => by
    have q1 : inR 1000 (nI r) := ⟨nI_pos (by omega), by rw [nI_leI (by omega) (by omega)]; omega⟩
    have q2 : inR 4 (nI k) := ⟨nI_pos (by omega), by rw [nI_leI (by omega) (by omega)]; omega⟩
    rw [huN, if_pos ⟨q1, q2⟩, nI_c4, nI_mul, nI_add, nI_clamp (by omega)]
    simp [fillA, mv_si]
  have second : ∀ k, k ≤ 4 → X 35 [some (.ref x0), some (.int (nI r)), some (.int (nI lv)), some (.int (nI k))] [] (fillA (fillA (mv_si h (x0 + 7) lv (nI r)) (x0 + 9) (hdF h x0 r 4)) (x0 + 10) (plF2 h x0 lv (hdF h x0 r 4) k)) := by
    refine mv_up 4 ?_
    intro k hk ih
    have gU : ∀ f, gOk kd (fillA (fillA (mv_si h (x0 + 7) lv (nI r)) (x0 + 9) (hdF h x0 r 4)) (x0 + 10) f) (x0 + 1) := fun f => hgS (nI r) (hdF h x0 r 4)
    have eH : ∀ f, (fillA (fillA (mv_si h (x0 + 7) lv (nI r)) (x0 + 9) (hdF h x0 r 4)) (x0 + 10) f).2.1 (x0 + 9) = hdF h x0 r 4 := fun f => by rw [fillA_ne (by omega), fillA_o]
    have eL : ∀ f (i : Int32), (if ¬ i < 0 ∧ ¬ nI (gn (fillA (fillA (mv_si h (x0 + 7) lv (nI r)) (x0 + 9) (hdF h x0 r 4)) (x0 + 10) f) (x0 + 1)) ≤ i then sumL (fun k => gE (fillA (fillA (mv_si h (x0 + 7) lv (nI r)) (x0 + 9) (hdF h x0 r 4)) (x0 + 10) f) (x0 + 1) i.toNatClampNeg k * hdF h x0 r 4 k) (gn (fillA (fillA (mv_si h (x0 + 7) lv (nI r)) (x0 + 9) (hdF h x0 r 4)) (x0 + 10) f) (x0 + 1)) else 0) = lnB h (x0 + 1) (hdF h x0 r 4) i := fun f i => by
      have w1 : (fillA (fillA (mv_si h (x0 + 7) lv (nI r)) (x0 + 9) (hdF h x0 r 4)) (x0 + 10) f).1 (x0 + 1) 0 = h.1 (x0 + 1) 0 := by simp [fillA, mv_si]
      have w2 : (fillA (fillA (mv_si h (x0 + 7) lv (nI r)) (x0 + 9) (hdF h x0 r 4)) (x0 + 10) f).2.1 (x0 + 1 + 1) = h.2.1 (x0 + 1 + 1) := by
        rw [fillA_ne (by omega), fillA_ne (by omega)]
        rfl
      exact lnB_same w1 w2 (hdF h x0 r 4) i
    have ea : nI lv * 4 + nI k = nI (lv * 4 + k) := by rw [nI_c4, nI_mul, nI_add]
    refine mv_go hX 60 ?_
    simp only [mv_wps, mv_exq, mv_exr, mv_exn, mv_xg, mv_xpi, mv_xpl, mv_xpr, mv_xc, mv_xc2, mv_xs, mv_9z, mv_cqs, mv_calls, mv_lgz, mv_stz, mv_kz, mv_cz, mv_fvs, mv_ats, mv_ics, mv_rz, mv_tz, mv_cns, mv_nfs, mv_fins, mv_det, mv_cc, mv_c0, Nat.reduceAdd, Nat.reduceEqDiff, Nat.reduceLT, Nat.reduceLeDiff, Nat.reduceSub, reduceIte, decide_false, decide_true, Bool.false_eq_true, List.map_cons, List.map_nil, List.sum_cons, List.sum_nil, true_and, and_true, true_or, or_true, false_or, or_false, false_and, and_false, true_implies, false_implies, implies_true, not_true_eq_false, not_false_eq_true, lg_cmp_ge, lg_cmp_le, lg_cmp_gt, lg_cmp_lt, lg_cmp_eq, qX2_hold, flX2s, cIX2s, cLX2s, csX2_hold, sX2_hold, sX2_numberOf, sX1_lineBy, ms_aia, ms_aii, k1, fillA_R, mv_siR, r8, r1, r7, gU, g1.1, k6, mv_lenK k7, eH, eL, ea]
    refine ⟨fun hc => ?_, fun hc => ?_⟩
    · have hc : nI 4 ≤ nI k := hc
      rw [nI_leI (by omega) (by omega)] at hc
      obtain rfl : k = 4 := by omega
      rw [hr, hl]
      rfl
    · have hc : ¬ nI 4 ≤ nI k := hc
      rw [nI_leI (by omega) (by omega)] at hc
      have w := ih (by omega)
      rw [nI_1 k, nI_clamp (n := lv * 4 + k) (by omega), fillA_set]
      have e : (fun j => if j = lv * 4 + k then lnB h (x0 + 1) (hdF h x0 r 4) (nI k) else plF2 h x0 lv (hdF h x0 r 4) k j) = plF2 h x0 lv (hdF h x0 r 4) (k + 1) := by
        funext j
        unfold plF2
        by_cases z1 : j = lv * 4 + k
        · subst z1
          rw [if_pos rfl, if_pos (by omega), show lv * 4 + k - lv * 4 = k by omega]
        · by_cases z2 : lv * 4 ≤ j ∧ j < lv * 4 + k
          · rw [if_neg z1, if_pos z2, if_pos (by omega)]
          · rw [if_neg z1, if_neg z2, if_neg (by omega)]
      rw [e]
      exact ⟨vp_in_nI (by omega) (by omega), w⟩
  have first : ∀ k, k ≤ 4 → X 9 [some (.ref x0), some (.int (nI r)), some (.int (nI lv)), some (.int (nI k))] [] (fillA (mv_si h (x0 + 7) lv (nI r)) (x0 + 9) (hdF h x0 r k)) := by
    refine mv_up 4 ?_
    intro k hk ih
    have hh := hok (nI r) (hdF h x0 r k)
    refine mv_go hX 60 ?_
    simp only [mv_wps, mv_exq, mv_exr, mv_exn, mv_xg, mv_xpi, mv_xpl, mv_xpr, mv_xc, mv_xc2, mv_xs, mv_9z, mv_cqs, mv_calls, mv_lgz, mv_stz, mv_kz, mv_cz, mv_fvs, mv_ats, mv_ics, mv_rz, mv_tz, mv_cns, mv_nfs, mv_fins, mv_det, mv_cc, mv_c0, Nat.reduceAdd, Nat.reduceEqDiff, Nat.reduceLT, Nat.reduceLeDiff, Nat.reduceSub, reduceIte, decide_false, decide_true, Bool.false_eq_true, List.map_cons, List.map_nil, List.sum_cons, List.sum_nil, true_and, and_true, true_or, or_true, false_or, or_false, false_and, and_false, true_implies, false_implies, implies_true, not_true_eq_false, not_false_eq_true, lg_cmp_ge, lg_cmp_le, lg_cmp_gt, lg_cmp_lt, lg_cmp_eq, qX2_hold, flX2s, cIX2s, cLX2s, csX2_hold, sX2_hold, sX2_numberOf, sX1_lineBy, ms_aia, ms_aii, k1, fillA_R, mv_siR, r7, hh, mv_lenK k6]
    refine ⟨fun hc => ?_, fun hc => ?_⟩
    · have hc : nI 4 ≤ nI k := hc
      rw [nI_leI (by omega) (by omega)] at hc
      obtain rfl : k = 4 := by omega
      have w := second 0 (by omega)
      have e : plF2 h x0 lv (hdF h x0 r 4) 0 = (fillA (mv_si h (x0 + 7) lv (nI r)) (x0 + 9) (hdF h x0 r 4)).2.1 (x0 + 10) := by
        funext j
        have : ¬ (lv * 4 ≤ j ∧ j < lv * 4) := by omega
        simp [plF2, fillA, mv_si, this]
      rw [e, fillA_self] at w
      exact w
    · have hc : ¬ nI 4 ≤ nI k := hc
      rw [nI_leI (by omega) (by omega)] at hc
      have w := ih (by omega)
      rw [nI_1, nI_clamp (n := k) (by omega), fillA_set, hNm _ _ _ (by omega)]
      have e : (fun j => if j = k then (h.1 (x0 + 8) (r * 4 + k)).toInt64 else hdF h x0 r k j) = hdF h x0 r (k + 1) := by
        funext j
        unfold hdF
        by_cases z1 : j = k
        · subst z1; rw [if_pos rfl, if_pos (by omega)]
        · by_cases z2 : j < k
          · rw [if_neg z1, if_pos z2, if_pos (by omega)]
          · rw [if_neg z1, if_neg z2, if_neg (by omega)]
      rw [e]
      exact ⟨vp_in_nI (by omega) (by omega), w⟩
  refine mv_go hX 60 ?_
  simp only [mv_wps, mv_exq, mv_exr, mv_exn, mv_xg, mv_xpi, mv_xpl, mv_xpr, mv_xc, mv_xc2, mv_xs, mv_9z, mv_cqs, mv_calls, mv_lgz, mv_stz, mv_kz, mv_cz, mv_fvs, mv_ats, mv_ics, mv_rz, mv_tz, mv_cns, mv_nfs, mv_fins, mv_det, mv_cc, mv_c0, Nat.reduceAdd, Nat.reduceEqDiff, Nat.reduceLT, Nat.reduceLeDiff, Nat.reduceSub, reduceIte, decide_false, decide_true, Bool.false_eq_true, List.map_cons, List.map_nil, List.sum_cons, List.sum_nil, true_and, and_true, true_or, or_true, false_or, or_false, false_and, and_false, true_implies, false_implies, implies_true, not_true_eq_false, not_false_eq_true, lg_cmp_ge, lg_cmp_le, lg_cmp_gt, lg_cmp_lt, lg_cmp_eq, qX2_hold, flX2s, cIX2s, cLX2s, csX2_hold, sX2_hold, sX2_numberOf, sX1_lineBy, ms_aia, ms_aii, k1, r5, mv_lenK k4]
  rw [nI_clamp (n := lv) (by omega)]
  have w := first 0 (by omega)
  have e : hdF h x0 r 0 = (mv_si h (x0 + 7) lv (nI r)).2.1 (x0 + 9) := by
    funext j
    simp [hdF, mv_si]
  rw [e, fillA_self] at w
  exact ⟨vp_in_nI (by omega) (by omega), w⟩
