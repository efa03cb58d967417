/-! The reference: the walk through a box. -/
noncomputable def sX7_isNought (kd : List (Nat × Nat)) : mv_S := ms_ai (fun m n h => moOk kd h m ∧ isN n 5) (fun m n h v h' => v = some (.int (b01 (∀ i, i < n.toNatClampNeg → h.2.1 (m + 11) i = 0))) ∧ h' = h)
noncomputable def csX7_isNought (kd : List (Nat × Nat)) : mv_CS := mv_c0
theorem oX7_isNought {l : Launch} {b : Nat} {ad : Nat → Nat} {D : va_G} {cA : Nat → ClassId} {kd : List (Nat × Nat)} (had : ∀ i, i < kd.length → ad i = b + i) : mv_Own l (mv_room 0) b ad D cA kd RX7 flX7 cIX7 cLX7 (csX7_isNought kd) := (mv_o0 flX7_ok cIX7_ok cLX7_ok)
set_option maxRecDepth 100000 in
set_option maxHeartbeats 4000000 in
theorem ctX7_isNought {l : Launch} {b : Nat} {ad : Nat → Nat} {D : va_G} {cA : Nat → ClassId} {kd : List (Nat × Nat)} (had : ∀ i, i < kd.length → ad i = b + i) : mv_Ct l b ad D cA kd yX7_isNought cX7_isNought 3 (some .boolean) 0 (sX7_isNought kd) := by
  refine mv_introF (rk := 2) tX7_isNought (mv_pf plRX7) kX7_isNought had ⟨(fun e => by cases e), (fun e => by cases e), (fun _ => rfl), (fun e => by cases e), (fun e => by cases e)⟩ (oX7_isNought had) ?_
  intro h as hp
  obtain ⟨x0, x1, rfl, hq⟩ := ms_ai_inv hp
  refine ⟨Nat.le_of_ble_eq_true rfl, fun X hX => ?_⟩
  show X 0 [some (.ref x0), some (.int x1), none] [] h
  obtain ⟨hm, ⟨e1, h1⟩⟩ := hq
  obtain ⟨⟨k0, k1, k2, k3, k4, k5, k6, k7, k8, k9, k10, k11, k12, k13, k14, k15, k16, k17, k18, k19, k20⟩, ⟨r0, r1, r4, r5, r6, r9, r11, r12, r14, r15, r16, r17, r18, r19, r20, r21, r22, r23, r24, r25⟩⟩ := id hm
  generalize q1 : x1.toNatClampNeg = n at *
  subst e1
  have loop : ∀ i, i ≤ n → (∀ j, j < i → h.2.1 (x0 + 11) j = 0) → X 2 [some (.ref x0), some (.int (nI n)), some (.int (nI i))] [] h := by
    refine mv_up n ?_
    intro i hi ih hall
    refine mv_go hX 40 ?_
    simp only [mv_wps, mv_exq, mv_exr, mv_exn, mv_xg, mv_xpi, mv_xpl, mv_xpr, mv_xc, mv_xc2, mv_xs, mv_9z, mv_cqs, mv_calls, mv_lgz, mv_stz, mv_kz, mv_cz, mv_fvs, mv_ats, mv_ics, mv_rz, mv_tz, mv_cns, mv_nfs, mv_fins, mv_det, mv_cc, mv_c0, Nat.reduceAdd, Nat.reduceEqDiff, Nat.reduceLT, Nat.reduceLeDiff, Nat.reduceSub, reduceIte, decide_false, decide_true, Bool.false_eq_true, List.map_cons, List.map_nil, List.sum_cons, List.sum_nil, true_and, and_true, true_or, or_true, false_or, or_false, false_and, and_false, true_implies, false_implies, implies_true, not_true_eq_false, not_false_eq_true, lg_cmp_ge, lg_cmp_le, lg_cmp_gt, lg_cmp_lt, lg_cmp_eq, qX7_isNought, flX7s, cIX7s, cLX7s, csX7_isNought, sX7_isNought, ms_ai, k0, r16, mv_lenK k11, q1]
    refine ⟨fun hz => ?_, fun hz => ?_⟩
    · rw [nI_leI (by omega) (by omega)] at hz
      obtain rfl : i = n := by omega
      rw [b01_t hall]
    · rw [nI_leI (by omega) (by omega)] at hz
      rw [nI_clamp (n := i) (by omega), nI_1]
      refine ⟨vp_in_nI (by omega) (by omega), fun hy => ih (by omega) (fun j hj => ?_), fun hy => ?_⟩
      · by_cases z : j = i
        · subst z; exact hy
        · exact hall j (by omega)
      · rw [b01_f (fun z => hy (z i (by omega)))]
  refine mv_go hX 40 ?_
  simp only [mv_wps, mv_exq, mv_exr, mv_exn, mv_xg, mv_xpi, mv_xpl, mv_xpr, mv_xc, mv_xc2, mv_xs, mv_9z, mv_cqs, mv_calls, mv_lgz, mv_stz, mv_kz, mv_cz, mv_fvs, mv_ats, mv_ics, mv_rz, mv_tz, mv_cns, mv_nfs, mv_fins, mv_det, mv_cc, mv_c0, Nat.reduceAdd, Nat.reduceEqDiff, Nat.reduceLT, Nat.reduceLeDiff, Nat.reduceSub, reduceIte, decide_false, decide_true, Bool.false_eq_true, List.map_cons, List.map_nil, List.sum_cons, List.sum_nil, true_and, and_true, true_or, or_true, false_or, or_false, false_and, and_false, true_implies, false_implies, implies_true, not_true_eq_false, not_false_eq_true, lg_cmp_ge, lg_cmp_le, lg_cmp_gt, lg_cmp_lt, lg_cmp_eq, qX7_isNought, flX7s, cIX7s, cLX7s, csX7_isNought, sX7_isNought, ms_ai]
  exact loop 0 (by omega) (fun j z => absurd z (by omega))
def upL (x : Nat → Int64) (i : Nat) (v : Int64) : Nat → Int64 := fun j => if j = i then v else x j
def goF (hi lo : Nat → Int64) : Nat → (Nat → Int64) → Int32 × (Nat → Int64)
  | 0, x => (0, x)
  | i + 1, x => if x i = hi i then goF hi lo i (upL x i (lo i)) else (1, upL x i (x i + 1))
def sX7_goesOn (kd : List (Nat × Nat)) : mv_S := ms_ai (fun m n h => moOk kd h m ∧ isN n 5) (fun m n h v h' => v = some (.int (goF (h.2.1 (m + 13)) (h.2.1 (m + 12)) n.toNatClampNeg (h.2.1 (m + 11))).1) ∧ h' = fillA h (m + 11) (goF (h.2.1 (m + 13)) (h.2.1 (m + 12)) n.toNatClampNeg (h.2.1 (m + 11))).2)
noncomputable def csX7_goesOn (kd : List (Nat × Nat)) : mv_CS := mv_c0
theorem oX7_goesOn {l : Launch} {b : Nat} {ad : Nat → Nat} {D : va_G} {cA : Nat → ClassId} {kd : List (Nat × Nat)} (had : ∀ i, i < kd.length → ad i = b + i) : mv_Own l (mv_room 0) b ad D cA kd RX7 flX7 cIX7 cLX7 (csX7_goesOn kd) := (mv_o0 flX7_ok cIX7_ok cLX7_ok)
set_option maxRecDepth 100000 in
set_option maxHeartbeats 4000000 in
theorem ctX7_goesOn {l : Launch} {b : Nat} {ad : Nat → Nat} {D : va_G} {cA : Nat → ClassId} {kd : List (Nat × Nat)} (had : ∀ i, i < kd.length → ad i = b + i) : mv_Ct l b ad D cA kd yX7_goesOn cX7_goesOn 3 (some .boolean) 0 (sX7_goesOn kd) := by
  refine mv_introF (rk := 2) tX7_goesOn (mv_pf plRX7) kX7_goesOn had ⟨(fun e => by cases e), (fun e => by cases e), (fun _ => rfl), (fun e => by cases e), (fun e => by cases e)⟩ (oX7_goesOn had) ?_
  intro h as hp
  obtain ⟨x0, x1, rfl, hq⟩ := ms_ai_inv hp
  refine ⟨Nat.le_of_ble_eq_true rfl, fun X hX => ?_⟩
  show X 0 [some (.ref x0), some (.int x1), none] [] h
  obtain ⟨hm, ⟨e1, h1⟩⟩ := hq
  obtain ⟨⟨k0, k1, k2, k3, k4, k5, k6, k7, k8, k9, k10, k11, k12, k13, k14, k15, k16, k17, k18, k19, k20⟩, ⟨r0, r1, r4, r5, r6, r9, r11, r12, r14, r15, r16, r17, r18, r19, r20, r21, r22, r23, r24, r25⟩⟩ := id hm
  generalize q1 : x1.toNatClampNeg = n at *
  subst e1
  have a12 : ∀ f, (fillA h (x0 + 11) f).2.1 (x0 + 12) = h.2.1 (x0 + 12) := fun f => fillA_ne (by omega)
  have a13 : ∀ f, (fillA h (x0 + 11) f).2.1 (x0 + 13) = h.2.1 (x0 + 13) := fun f => fillA_ne (by omega)
  have loop : ∀ i, i ≤ n → ∀ x, goF (h.2.1 (x0 + 13)) (h.2.1 (x0 + 12)) i x = goF (h.2.1 (x0 + 13)) (h.2.1 (x0 + 12)) n (h.2.1 (x0 + 11)) → X 4 [some (.ref x0), some (.int (nI n)), some (.int (nI i - 1))] [] (fillA h (x0 + 11) x) := by
    intro i
    induction i with
    | zero =>
      intro hi x hx
      have hneg : nI 0 - 1 < 0 := by decide
      rw [goF] at hx
      refine mv_go hX 40 ?_
      simp only [mv_wps, mv_exq, mv_exr, mv_exn, mv_xg, mv_xpi, mv_xpl, mv_xpr, mv_xc, mv_xc2, mv_xs, mv_9z, mv_cqs, mv_calls, mv_lgz, mv_stz, mv_kz, mv_cz, mv_fvs, mv_ats, mv_ics, mv_rz, mv_tz, mv_cns, mv_nfs, mv_fins, mv_det, mv_cc, mv_c0, Nat.reduceAdd, Nat.reduceEqDiff, Nat.reduceLT, Nat.reduceLeDiff, Nat.reduceSub, reduceIte, decide_false, decide_true, Bool.false_eq_true, List.map_cons, List.map_nil, List.sum_cons, List.sum_nil, true_and, and_true, true_or, or_true, false_or, or_false, false_and, and_false, true_implies, false_implies, implies_true, not_true_eq_false, not_false_eq_true, lg_cmp_ge, lg_cmp_le, lg_cmp_gt, lg_cmp_lt, lg_cmp_eq, qX7_goesOn, flX7s, cIX7s, cLX7s, csX7_goesOn, sX7_goesOn, ms_ai, hneg, q1]
      have hn0 : ¬ 0 ≤ nI 0 - 1 := by decide
      rw [← hx]
      exact ⟨fun z => absurd z hn0, fun _ => ⟨rfl, rfl⟩⟩
    | succ i ihi =>
      intro hi x hx
      have e : nI (i + 1) - 1 = nI i := by rw [nI_pred1 (by omega)]; rfl
      have hp : ¬ nI i < 0 := nI_pos (by omega)
      have hp' : 0 ≤ nI i := Int32.not_lt.mp hp
      have hv : vp_in (nI i) 4 := vp_in_nI (by omega) (by omega)
      have hc : (nI i).toNatClampNeg = i := nI_clamp (by omega)
      rw [e]
      rw [goF] at hx
      refine mv_go hX 40 ?_
      simp only [mv_wps, mv_exq, mv_exr, mv_exn, mv_xg, mv_xpi, mv_xpl, mv_xpr, mv_xc, mv_xc2, mv_xs, mv_9z, mv_cqs, mv_calls, mv_lgz, mv_stz, mv_kz, mv_cz, mv_fvs, mv_ats, mv_ics, mv_rz, mv_tz, mv_cns, mv_nfs, mv_fins, mv_det, mv_cc, mv_c0, Nat.reduceAdd, Nat.reduceEqDiff, Nat.reduceLT, Nat.reduceLeDiff, Nat.reduceSub, reduceIte, decide_false, decide_true, Bool.false_eq_true, List.map_cons, List.map_nil, List.sum_cons, List.sum_nil, true_and, and_true, true_or, or_true, false_or, or_false, false_and, and_false, true_implies, false_implies, implies_true, not_true_eq_false, not_false_eq_true, lg_cmp_ge, lg_cmp_le, lg_cmp_gt, lg_cmp_lt, lg_cmp_eq, qX7_goesOn, flX7s, cIX7s, cLX7s, csX7_goesOn, sX7_goesOn, ms_ai, k0, fillA_R, r16, r17, r18, mv_lenK k11, mv_lenK k12, mv_lenK k13, hp, hv, hc, fillA_o, a12, a13, hp', fillA_set, q1]
      refine ⟨fun hy => ?_, fun hy => ?_⟩
      · rw [if_neg hy] at hx
        rw [← hx]
        exact ⟨rfl, rfl⟩
      · have hy := Classical.not_not.mp hy
        rw [if_pos hy] at hx
        have e2 : nI i + -1 = nI i - 1 := i32_m1 _
        rw [e2]
        exact ihi (by omega) _ hx
  refine mv_go hX 40 ?_
  simp only [mv_wps, mv_exq, mv_exr, mv_exn, mv_xg, mv_xpi, mv_xpl, mv_xpr, mv_xc, mv_xc2, mv_xs, mv_9z, mv_cqs, mv_calls, mv_lgz, mv_stz, mv_kz, mv_cz, mv_fvs, mv_ats, mv_ics, mv_rz, mv_tz, mv_cns, mv_nfs, mv_fins, mv_det, mv_cc, mv_c0, Nat.reduceAdd, Nat.reduceEqDiff, Nat.reduceLT, Nat.reduceLeDiff, Nat.reduceSub, reduceIte, decide_false, decide_true, Bool.false_eq_true, List.map_cons, List.map_nil, List.sum_cons, List.sum_nil, true_and, and_true, true_or, or_true, false_or, or_false, false_and, and_false, true_implies, false_implies, implies_true, not_true_eq_false, not_false_eq_true, lg_cmp_ge, lg_cmp_le, lg_cmp_gt, lg_cmp_lt, lg_cmp_eq, qX7_goesOn, flX7s, cIX7s, cLX7s, csX7_goesOn, sX7_goesOn, ms_ai]
  have w := loop n (by omega) (h.2.1 (x0 + 11)) rfl
  rw [fillA_self] at w
  exact w
def itM (hi lo : Nat → Int64) : Nat → Int64
  | 0 => 1
  | i + 1 => if 300000 < hi i - lo i + 1 then 300001 else itM hi lo i * (hi i - lo i + 1)
def itN (h : mv_M) (m k : Nat) : Nat → Int64 := fun j => if j < k then h.2.1 (m + 12) j else h.2.1 (m + 11) j
def sX7_isTooLarge (kd : List (Nat × Nat)) : mv_S := ms_ai (fun m n h => moOk kd h m ∧ isN n 5) (fun m n h v h' => (v = some (.int 1) ∧ (∃ i, i < n.toNatClampNeg ∧ 300000 < itM (h.2.1 (m + 13)) (h.2.1 (m + 12)) (i + 1)) ∧ ∃ k, h' = fillA h (m + 11) (itN h m k)) ∨ (v = some (.int (if itM (h.2.1 (m + 13)) (h.2.1 (m + 12)) n.toNatClampNeg = 0 then 1 else 0)) ∧ (∀ i, i < n.toNatClampNeg → ¬ 300000 < itM (h.2.1 (m + 13)) (h.2.1 (m + 12)) (i + 1)) ∧ h' = fillA h (m + 11) (itN h m n.toNatClampNeg)))
noncomputable def csX7_isTooLarge (kd : List (Nat × Nat)) : mv_CS := mv_c0
theorem oX7_isTooLarge {l : Launch} {b : Nat} {ad : Nat → Nat} {D : va_G} {cA : Nat → ClassId} {kd : List (Nat × Nat)} (had : ∀ i, i < kd.length → ad i = b + i) : mv_Own l (mv_room 0) b ad D cA kd RX7 flX7 cIX7 cLX7 (csX7_isTooLarge kd) := (mv_o0 flX7_ok cIX7_ok cLX7_ok)
set_option maxRecDepth 100000 in
set_option maxHeartbeats 4000000 in
theorem ctX7_isTooLarge {l : Launch} {b : Nat} {ad : Nat → Nat} {D : va_G} {cA : Nat → ClassId} {kd : List (Nat × Nat)} (had : ∀ i, i < kd.length → ad i = b + i) : mv_Ct l b ad D cA kd yX7_isTooLarge cX7_isTooLarge 7 (some .boolean) 0 (sX7_isTooLarge kd) := by
  refine mv_introF (rk := 2) tX7_isTooLarge (mv_pf plRX7) kX7_isTooLarge had ⟨(fun e => by cases e), (fun e => by cases e), (fun _ => rfl), (fun e => by cases e), (fun e => by cases e)⟩ (oX7_isTooLarge had) ?_
  intro h as hp
  obtain ⟨x0, x1, rfl, hq⟩ := ms_ai_inv hp
  refine ⟨Nat.le_of_ble_eq_true rfl, fun X hX => ?_⟩
  show X 0 [some (.ref x0), some (.int x1), none, none, none, none, none] [] h
  obtain ⟨hm, ⟨e1, h1⟩⟩ := hq
  obtain ⟨⟨k0, k1, k2, k3, k4, k5, k6, k7, k8, k9, k10, k11, k12, k13, k14, k15, k16, k17, k18, k19, k20⟩, ⟨r0, r1, r4, r5, r6, r9, r11, r12, r14, r15, r16, r17, r18, r19, r20, r21, r22, r23, r24, r25⟩⟩ := id hm
  generalize q1 : x1.toNatClampNeg = n at *
  subst e1
  have a12 : ∀ f, (fillA h (x0 + 11) f).2.1 (x0 + 12) = h.2.1 (x0 + 12) := fun f => fillA_ne (by omega)
  have a13 : ∀ f, (fillA h (x0 + 11) f).2.1 (x0 + 13) = h.2.1 (x0 + 13) := fun f => fillA_ne (by omega)
  have loop : ∀ i, i ≤ n → (∀ j, j < i → ¬ 300000 < itM (h.2.1 (x0 + 13)) (h.2.1 (x0 + 12)) (j + 1)) → ∀ o, X 5 [some (.ref x0), some (.int (nI n)), some (.long (itM (h.2.1 (x0 + 13)) (h.2.1 (x0 + 12)) i)), none, some (.int (nI i)), o, none] [] (fillA h (x0 + 11) (itN h x0 i)) := by
    refine mv_up n ?_
    intro i hi ih hall o
    have hv : vp_in (nI i) 4 ∨ ¬ i < n := by
      by_cases z : i < n
      · exact Or.inl (vp_in_nI (by omega) (by omega))
      · exact Or.inr z
    have hc : (nI i).toNatClampNeg = i := nI_clamp (by omega)
    have eN : (fun j => if j = i then h.2.1 (x0 + 12) i else itN h x0 i j) = itN h x0 (i + 1) := by
      funext j
      unfold itN
      by_cases z1 : j = i
      · subst z1; rw [if_pos rfl, if_pos (by omega)]
      · by_cases z2 : j < i
        · rw [if_neg z1, if_pos z2, if_pos (by omega)]
        · rw [if_neg z1, if_neg z2, if_neg (by omega)]
    refine mv_go hX 60 ?_
    simp only [mv_wps, mv_exq, mv_exr, mv_exn, mv_xg, mv_xpi, mv_xpl, mv_xpr, mv_xc, mv_xc2, mv_xs, mv_9z, mv_cqs, mv_calls, mv_lgz, mv_stz, mv_kz, mv_cz, mv_fvs, mv_ats, mv_ics, mv_rz, mv_tz, mv_cns, mv_nfs, mv_fins, mv_det, mv_cc, mv_c0, Nat.reduceAdd, Nat.reduceEqDiff, Nat.reduceLT, Nat.reduceLeDiff, Nat.reduceSub, reduceIte, decide_false, decide_true, Bool.false_eq_true, List.map_cons, List.map_nil, List.sum_cons, List.sum_nil, true_and, and_true, true_or, or_true, false_or, or_false, false_and, and_false, true_implies, false_implies, implies_true, not_true_eq_false, not_false_eq_true, lg_cmp_ge, lg_cmp_le, lg_cmp_gt, lg_cmp_lt, lg_cmp_eq, qX7_isTooLarge, flX7s, cIX7s, cLX7s, csX7_isTooLarge, sX7_isTooLarge, ms_ai, k0, fillA_R, r16, r17, r18, mv_lenK k11, mv_lenK k12, mv_lenK k13, hc, a12, a13, fillA_set, eN, q1, Classical.not_not]
    refine ⟨fun hz => ⟨fun hy => Or.inr ?_, fun hy => Or.inr ?_⟩, fun hz => ?_⟩
    · rw [nI_leI (by omega) (by omega)] at hz
      obtain rfl : i = n := by omega
      rw [if_neg hy]
      exact ⟨rfl, hall, rfl⟩
    · rw [nI_leI (by omega) (by omega)] at hz
      obtain rfl : i = n := by omega
      rw [if_pos hy]
      exact ⟨rfl, hall, rfl⟩
    · rw [nI_leI (by omega) (by omega)] at hz
      have hv : vp_in (nI i) 4 := vp_in_nI (by omega) (by omega)
      have w := ih (by omega)
      have nxt : ¬ 300000 < itM (h.2.1 (x0 + 13)) (h.2.1 (x0 + 12)) (i + 1) → ∀ j, j < i + 1 → ¬ 300000 < itM (h.2.1 (x0 + 13)) (h.2.1 (x0 + 12)) (j + 1) := fun z j hj => by
        by_cases y : j = i
        · subst y; exact z
        · exact hall j (by omega)
      refine ⟨hv, hv, fun hy => ⟨fun hx => ⟨hv, hv, ?_⟩, fun hx => ?_⟩, fun hy => ⟨fun hx => ?_, fun hx => ?_⟩⟩
      · have e : itM (h.2.1 (x0 + 13)) (h.2.1 (x0 + 12)) (i + 1) = itM (h.2.1 (x0 + 13)) (h.2.1 (x0 + 12)) i * (h.2.1 (x0 + 13) i - h.2.1 (x0 + 12) i + 1) := by
          rw [itM, if_neg (Int64.not_lt.mpr hy)]
        rw [e] at w nxt
        rw [nI_1]
        exact w (nxt (Int64.not_lt.mpr hx)) _
      · have e : itM (h.2.1 (x0 + 13)) (h.2.1 (x0 + 12)) (i + 1) = itM (h.2.1 (x0 + 13)) (h.2.1 (x0 + 12)) i * (h.2.1 (x0 + 13) i - h.2.1 (x0 + 12) i + 1) := by
          rw [itM, if_neg (Int64.not_lt.mpr hy)]
        exact Or.inl ⟨⟨i, by omega, by rw [e]; exact Int64.not_le.mp hx⟩, i, rfl⟩
      · exact absurd hx (by decide)
      · have e : itM (h.2.1 (x0 + 13)) (h.2.1 (x0 + 12)) (i + 1) = 300001 := by
          rw [itM, if_pos (Int64.not_le.mp hy)]
        exact Or.inl ⟨⟨i, by omega, by rw [e]; decide⟩, i, rfl⟩
  refine mv_go hX 40 ?_
  simp only [mv_wps, mv_exq, mv_exr, mv_exn, mv_xg, mv_xpi, mv_xpl, mv_xpr, mv_xc, mv_xc2, mv_xs, mv_9z, mv_cqs, mv_calls, mv_lgz, mv_stz, mv_kz, mv_cz, mv_fvs, mv_ats, mv_ics, mv_rz, mv_tz, mv_cns, mv_nfs, mv_fins, mv_det, mv_cc, mv_c0, Nat.reduceAdd, Nat.reduceEqDiff, Nat.reduceLT, Nat.reduceLeDiff, Nat.reduceSub, reduceIte, decide_false, decide_true, Bool.false_eq_true, List.map_cons, List.map_nil, List.sum_cons, List.sum_nil, true_and, and_true, true_or, or_true, false_or, or_false, false_and, and_false, true_implies, false_implies, implies_true, not_true_eq_false, not_false_eq_true, lg_cmp_ge, lg_cmp_le, lg_cmp_gt, lg_cmp_lt, lg_cmp_eq, qX7_isTooLarge, flX7s, cIX7s, cLX7s, csX7_isTooLarge, sX7_isTooLarge, ms_ai]
  have w := loop 0 (by omega) (fun j z => absurd z (by omega)) none
  rw [show itN h x0 0 = h.2.1 (x0 + 11) from rfl, fillA_self] at w
  exact w
/-! a row put in -/
def pnF (fs : Nat → Int64) (z : Int64) : Nat → Nat
  | 0 => 0
  | c + 1 => if z < fs c then pnF fs z c else c + 1
theorem pnF_le (fs : Nat → Int64) (z : Int64) : ∀ c, pnF fs z c ≤ c
  | 0 => Nat.le_refl 0
  | c + 1 => by
    have := pnF_le fs z c
    unfold pnF
    split <;> omega
def psF (fs : Nat → Int64) (c p : Nat) : Nat → Int64 := fun j => if p < j ∧ j ≤ c then fs (j - 1) else fs j
