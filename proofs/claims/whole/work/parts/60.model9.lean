/-! The reference: lists, counts, roots and other numbers. -/
def cpF (f old : Nat → Int64) (c : Nat) : Nat → Int64 := fun j => if j < c then f j else old j
theorem cpF_0 (f old : Nat → Int64) : cpF f old 0 = old := by
  funext j
  exact if_neg (by omega)
theorem cpF_s (f old : Nat → Int64) (c : Nat) : (fun j => if j = c then f c else cpF f old c j) = cpF f old (c + 1) := by
  funext j
  unfold cpF
  by_cases z1 : j = c
  · subst z1; rw [if_pos rfl, if_pos (by omega)]
  · by_cases z2 : j < c
    · rw [if_neg z1, if_pos z2, if_pos (by omega)]
    · rw [if_neg z1, if_neg z2, if_neg (by omega)]
def moLs (h : mv_M) (m n : Nat) : mv_M := fillA (fillA (mv_si (mv_si h m 7 (nI (moFc h m))) m 8 (nI n)) (m + 5) (cpF (h.2.1 (m + 8)) (h.2.1 (m + 5)) (moFc h m))) (m + 4) (cpF (h.2.1 (m + 7)) (h.2.1 (m + 4)) (4 * moFc h m))
def sX7_list (kd : List (Nat × Nat)) : mv_S := ms_ai (fun m n h => moOk kd h m ∧ isN n 5 ∧ isN (h.1 m 13) 1001) (fun m n h v h' => v = none ∧ h' = moLs h m n.toNatClampNeg)
noncomputable def csX7_list (kd : List (Nat × Nat)) : mv_CS := mv_c0
theorem oX7_list {l : Launch} {b : Nat} {ad : Nat → Nat} {D : va_G} {cA : Nat → ClassId} {kd : List (Nat × Nat)} (had : ∀ i, i < kd.length → ad i = b + i) : mv_Own l (mv_room 0) b ad D cA kd RX7 flX7 cIX7 cLX7 (csX7_list kd) := (mv_o0 flX7_ok cIX7_ok cLX7_ok)
set_option maxRecDepth 100000 in
set_option maxHeartbeats 4000000 in
theorem ctX7_list {l : Launch} {b : Nat} {ad : Nat → Nat} {D : va_G} {cA : Nat → ClassId} {kd : List (Nat × Nat)} (had : ∀ i, i < kd.length → ad i = b + i) : mv_Ct l b ad D cA kd yX7_list cX7_list 3 none 0 (sX7_list kd) := by
  refine mv_introF (rk := 0) tX7_list (mv_pf plRX7) kX7_list had ⟨(fun _ => rfl), (fun e => by cases e), (fun e => by cases e), (fun e => by cases e), (fun e => by cases e)⟩ (oX7_list had) ?_
  intro h as hp
  obtain ⟨x0, x1, rfl, hq⟩ := ms_ai_inv hp
  refine ⟨Nat.le_of_ble_eq_true rfl, fun X hX => ?_⟩
  show X 0 [some (.ref x0), some (.int x1), none] [] h
  obtain ⟨hm, ⟨e1, h1⟩, ⟨e2, h2⟩⟩ := hq
  obtain ⟨⟨k0, k1, k2, k3, k4, k5, k6, k7, k8, k9, k10, k11, k12, k13, k14, k15, k16, k17, k18, k19, k20⟩, ⟨r0, r1, r4, r5, r6, r9, r11, r12, r14, r15, r16, r17, r18, r19, r20, r21, r22, r23, r24, r25⟩⟩ := id hm
  generalize q1 : x1.toNatClampNeg = n at *
  subst e1
  have e2 : h.1 x0 13 = nI (moFc h x0) := e2
  have h2 : moFc h x0 < 1001 := h2
  have hL : moLs h x0 n = fillA (fillA (mv_si (mv_si h x0 7 (nI (moFc h x0))) x0 8 (nI n)) (x0 + 5) (cpF (h.2.1 (x0 + 8)) (h.2.1 (x0 + 5)) (moFc h x0))) (x0 + 4) (cpF (h.2.1 (x0 + 7)) (h.2.1 (x0 + 4)) (4 * moFc h x0)) := rfl
  generalize hc : moFc h x0 = c at *
  generalize hB : mv_si (mv_si h x0 7 (nI c)) x0 8 (nI n) = B at *
  have B1 : B.1 x0 13 = nI c := by rw [← hB]; simp [mv_si]; exact e2
  have B2 : B.2.1 = h.2.1 := by rw [← hB]; rfl
  have B3 : B.2.2 = h.2.2 := by rw [← hB]; rfl
  have second : ∀ k, k ≤ 4 * c → X 43 [some (.ref x0), some (.int (nI n)), some (.int (nI k))] [] (fillA (fillA B (x0 + 5) (cpF (h.2.1 (x0 + 8)) (h.2.1 (x0 + 5)) c)) (x0 + 4) (cpF (h.2.1 (x0 + 7)) (h.2.1 (x0 + 4)) k)) := by
    refine mv_up (4 * c) ?_
    intro k hk ih
    have ck : (nI k).toNatClampNeg = k := nI_clamp (by omega)
    have e4 : (4 : Int32) * nI c = nI (4 * c) := by rw [nI_c4, nI_mul]
    have b7 : ∀ f g, (fillA (fillA B (x0 + 5) f) (x0 + 4) g).2.1 (x0 + 7) = h.2.1 (x0 + 7) := fun f g => by rw [fillA_ne (by omega), fillA_ne (by omega), B2]
    refine mv_go hX 60 ?_
    simp only [mv_wps, mv_exq, mv_exr, mv_exn, mv_xg, mv_xpi, mv_xpl, mv_xpr, mv_xc, mv_xc2, mv_xs, mv_9z, mv_cqs, mv_calls, mv_lgz, mv_stz, mv_kz, mv_cz, mv_fvs, mv_ats, mv_ics, mv_rz, mv_tz, mv_cns, mv_nfs, mv_fins, mv_det, mv_cc, mv_c0, Nat.reduceAdd, Nat.reduceEqDiff, Nat.reduceLT, Nat.reduceLeDiff, Nat.reduceSub, reduceIte, decide_false, decide_true, Bool.false_eq_true, List.map_cons, List.map_nil, List.sum_cons, List.sum_nil, true_and, and_true, true_or, or_true, false_or, or_false, false_and, and_false, true_implies, false_implies, implies_true, not_true_eq_false, not_false_eq_true, lg_cmp_ge, lg_cmp_le, lg_cmp_gt, lg_cmp_lt, lg_cmp_eq, qX7_list, flX7s, cIX7s, cLX7s, csX7_list, sX7_list, ms_ai, k0, fillA_R, B1, B3, r5, r11, mv_lenK k4, mv_lenK k7, ck, e4, b7, fillA_set, cpF_s, q1, hL]
    refine ⟨fun hz => ?_, fun hz => ?_⟩
    · rw [nI_leI (by omega) (by omega)] at hz
      obtain rfl : k = 4 * c := by omega
      rfl
    · rw [nI_leI (by omega) (by omega)] at hz
      have w := ih (by omega)
      rw [nI_1]
      exact ⟨vp_in_nI (by omega) (by omega), vp_in_nI (by omega) (by omega), w⟩
  have first : ∀ k, k ≤ c → X 15 [some (.ref x0), some (.int (nI n)), some (.int (nI k))] [] (fillA B (x0 + 5) (cpF (h.2.1 (x0 + 8)) (h.2.1 (x0 + 5)) k)) := by
    refine mv_up c ?_
    intro k hk ih
    have ck : (nI k).toNatClampNeg = k := nI_clamp (by omega)
    have b8 : ∀ f, (fillA B (x0 + 5) f).2.1 (x0 + 8) = h.2.1 (x0 + 8) := fun f => by rw [fillA_ne (by omega), B2]
    refine mv_go hX 60 ?_
    simp only [mv_wps, mv_exq, mv_exr, mv_exn, mv_xg, mv_xpi, mv_xpl, mv_xpr, mv_xc, mv_xc2, mv_xs, mv_9z, mv_cqs, mv_calls, mv_lgz, mv_stz, mv_kz, mv_cz, mv_fvs, mv_ats, mv_ics, mv_rz, mv_tz, mv_cns, mv_nfs, mv_fins, mv_det, mv_cc, mv_c0, Nat.reduceAdd, Nat.reduceEqDiff, Nat.reduceLT, Nat.reduceLeDiff, Nat.reduceSub, reduceIte, decide_false, decide_true, Bool.false_eq_true, List.map_cons, List.map_nil, List.sum_cons, List.sum_nil, true_and, and_true, true_or, or_true, false_or, or_false, false_and, and_false, true_implies, false_implies, implies_true, not_true_eq_false, not_false_eq_true, lg_cmp_ge, lg_cmp_le, lg_cmp_gt, lg_cmp_lt, lg_cmp_eq, qX7_list, flX7s, cIX7s, cLX7s, csX7_list, sX7_list, ms_ai, k0, fillA_R, B1, B3, r6, r12, mv_lenK k5, mv_lenK k8, ck, b8, fillA_set, cpF_s]
    refine ⟨fun hz => ?_, fun hz => ?_⟩
    · rw [nI_leI (by omega) (by omega)] at hz
      obtain rfl : k = c := by omega
      have w := second 0 (by omega)
      have e : cpF (h.2.1 (x0 + 7)) (h.2.1 (x0 + 4)) 0 = (fillA B (x0 + 5) (cpF (h.2.1 (x0 + 8)) (h.2.1 (x0 + 5)) k)).2.1 (x0 + 4) := by
        rw [cpF_0, fillA_ne (by omega), B2]
      rw [e, fillA_self] at w
      exact w
    · rw [nI_leI (by omega) (by omega)] at hz
      have w := ih (by omega)
      rw [nI_1]
      exact ⟨vp_in_nI (by omega) (by omega), vp_in_nI (by omega) (by omega), w⟩
  refine mv_go hX 60 ?_
  simp only [mv_wps, mv_exq, mv_exr, mv_exn, mv_xg, mv_xpi, mv_xpl, mv_xpr, mv_xc, mv_xc2, mv_xs, mv_9z, mv_cqs, mv_calls, mv_lgz, mv_stz, mv_kz, mv_cz, mv_fvs, mv_ats, mv_ics, mv_rz, mv_tz, mv_cns, mv_nfs, mv_fins, mv_det, mv_cc, mv_c0, Nat.reduceAdd, Nat.reduceEqDiff, Nat.reduceLT, Nat.reduceLeDiff, Nat.reduceSub, reduceIte, decide_false, decide_true, Bool.false_eq_true, List.map_cons, List.map_nil, List.sum_cons, List.sum_nil, true_and, and_true, true_or, or_true, false_or, or_false, false_and, and_false, true_implies, false_implies, implies_true, not_true_eq_false, not_false_eq_true, lg_cmp_ge, lg_cmp_le, lg_cmp_gt, lg_cmp_lt, lg_cmp_eq, qX7_list, flX7s, cIX7s, cLX7s, csX7_list, sX7_list, ms_ai, k0, e2, hB]
  have w := first 0 (by omega)
  rw [cpF_0, show h.2.1 (x0 + 5) = B.2.1 (x0 + 5) by rw [B2], fillA_self] at w
  exact w
def myF (fs : Nat → Int64) (z : Int64) : Nat → Nat
  | 0 => 0
  | k + 1 => myF fs z k + (if fs k = z then 1 else 0)
theorem myF_le (fs : Nat → Int64) (z : Int64) : ∀ c, myF fs z c ≤ c
  | 0 => Nat.le_refl 0
  | c + 1 => by
    have := myF_le fs z c
    unfold myF
    split <;> omega
def sX7_many (kd : List (Nat × Nat)) : mv_S := ms_al (fun m _ h => moOk kd h m ∧ isN (h.1 m 13) 1001) (fun m z h v h' => v = some (.int (nI (myF (h.2.1 (m + 8)) z (moFc h m)))) ∧ h' = h)
noncomputable def csX7_many (kd : List (Nat × Nat)) : mv_CS := mv_c0
theorem oX7_many {l : Launch} {b : Nat} {ad : Nat → Nat} {D : va_G} {cA : Nat → ClassId} {kd : List (Nat × Nat)} (had : ∀ i, i < kd.length → ad i = b + i) : mv_Own l (mv_room 0) b ad D cA kd RX7 flX7 cIX7 cLX7 (csX7_many kd) := (mv_o0 flX7_ok cIX7_ok cLX7_ok)
set_option maxRecDepth 100000 in
set_option maxHeartbeats 4000000 in
theorem ctX7_many {l : Launch} {b : Nat} {ad : Nat → Nat} {D : va_G} {cA : Nat → ClassId} {kd : List (Nat × Nat)} (had : ∀ i, i < kd.length → ad i = b + i) : mv_Ct l b ad D cA kd yX7_many cX7_many 5 (some .int) 0 (sX7_many kd) := by
  refine mv_introF (rk := 1) tX7_many (mv_pf plRX7) kX7_many had ⟨(fun e => by cases e), (fun _ => rfl), (fun e => by cases e), (fun e => by cases e), (fun e => by cases e)⟩ (oX7_many had) ?_
  intro h as hp
  obtain ⟨x0, x1, rfl, hq⟩ := ms_al_inv hp
  refine ⟨Nat.le_of_ble_eq_true rfl, fun X hX => ?_⟩
  show X 0 [some (.ref x0), some (.long x1), none, none, none] [] h
  obtain ⟨hm, ⟨e2, h2⟩⟩ := hq
  obtain ⟨⟨k0, k1, k2, k3, k4, k5, k6, k7, k8, k9, k10, k11, k12, k13, k14, k15, k16, k17, k18, k19, k20⟩, ⟨r0, r1, r4, r5, r6, r9, r11, r12, r14, r15, r16, r17, r18, r19, r20, r21, r22, r23, r24, r25⟩⟩ := id hm
  have e2 : h.1 x0 13 = nI (moFc h x0) := e2
  have h2 : moFc h x0 < 1001 := h2
  generalize hc : moFc h x0 = c at *
  have loop : ∀ k, k ≤ c → X 5 [some (.ref x0), some (.long x1), none, some (.int (nI (myF (h.2.1 (x0 + 8)) x1 k))), some (.int (nI k))] [] h := by
    refine mv_up c ?_
    intro k hk ih
    have ck : (nI k).toNatClampNeg = k := nI_clamp (by omega)
    refine mv_go hX 60 ?_
    simp only [mv_wps, mv_exq, mv_exr, mv_exn, mv_xg, mv_xpi, mv_xpl, mv_xpr, mv_xc, mv_xc2, mv_xs, mv_9z, mv_cqs, mv_calls, mv_lgz, mv_stz, mv_kz, mv_cz, mv_fvs, mv_ats, mv_ics, mv_rz, mv_tz, mv_cns, mv_nfs, mv_fins, mv_det, mv_cc, mv_c0, Nat.reduceAdd, Nat.reduceEqDiff, Nat.reduceLT, Nat.reduceLeDiff, Nat.reduceSub, reduceIte, decide_false, decide_true, Bool.false_eq_true, List.map_cons, List.map_nil, List.sum_cons, List.sum_nil, true_and, and_true, true_or, or_true, false_or, or_false, false_and, and_false, true_implies, false_implies, implies_true, not_true_eq_false, not_false_eq_true, lg_cmp_ge, lg_cmp_le, lg_cmp_gt, lg_cmp_lt, lg_cmp_eq, qX7_many, flX7s, cIX7s, cLX7s, csX7_many, sX7_many, ms_al, k0, e2, r12, mv_lenK k8, ck, hc]
    refine ⟨fun hz => ?_, fun hz => ?_⟩
    · rw [nI_leI (by omega) (by omega)] at hz
      obtain rfl : k = c := by omega
      rfl
    · rw [nI_leI (by omega) (by omega)] at hz
      have w := ih (by omega)
      rw [nI_1 k]
      refine ⟨vp_in_nI (by omega) (by omega), fun hy => ?_, fun hy => ?_⟩
      · rw [myF, if_neg hy, Nat.add_zero] at w
        rw [Int32.add_zero]
        exact w
      · rw [myF, if_pos (Classical.not_not.mp hy)] at w
        rw [nI_1]
        exact w
  refine mv_go hX 60 ?_
  simp only [mv_wps, mv_exq, mv_exr, mv_exn, mv_xg, mv_xpi, mv_xpl, mv_xpr, mv_xc, mv_xc2, mv_xs, mv_9z, mv_cqs, mv_calls, mv_lgz, mv_stz, mv_kz, mv_cz, mv_fvs, mv_ats, mv_ics, mv_rz, mv_tz, mv_cns, mv_nfs, mv_fins, mv_det, mv_cc, mv_c0, Nat.reduceAdd, Nat.reduceEqDiff, Nat.reduceLT, Nat.reduceLeDiff, Nat.reduceSub, reduceIte, decide_false, decide_true, Bool.false_eq_true, List.map_cons, List.map_nil, List.sum_cons, List.sum_nil, true_and, and_true, true_or, or_true, false_or, or_false, false_and, and_false, true_implies, false_implies, implies_true, not_true_eq_false, not_false_eq_true, lg_cmp_ge, lg_cmp_le, lg_cmp_gt, lg_cmp_lt, lg_cmp_eq, qX7_many, flX7s, cIX7s, cLX7s, csX7_many, sX7_many, ms_al]
  exact loop 0 (by omega)
def moKw (h : mv_M) (m n : Nat) : mv_M := gW (mv_si h m 10 (nI n)) (m + 5) (gM h (m + 16))
def sX7_keepWay (kd : List (Nat × Nat)) : mv_S := ms_ai (fun m n h => moOk kd h m ∧ isN n 5) (fun m n h v h' => v = none ∧ h' = moKw h m n.toNatClampNeg)
noncomputable def csX7_keepWay (kd : List (Nat × Nat)) : mv_CS := mv_c0
theorem oX7_keepWay {l : Launch} {b : Nat} {ad : Nat → Nat} {D : va_G} {cA : Nat → ClassId} {kd : List (Nat × Nat)} (had : ∀ i, i < kd.length → ad i = b + i) : mv_Own l (mv_room 0) b ad D cA kd RX7 flX7 cIX7 cLX7 (csX7_keepWay kd) := (mv_o0 flX7_ok cIX7_ok cLX7_ok)
set_option maxRecDepth 100000 in
set_option maxHeartbeats 4000000 in
theorem ctX7_keepWay {l : Launch} {b : Nat} {ad : Nat → Nat} {D : va_G} {cA : Nat → ClassId} {kd : List (Nat × Nat)} (had : ∀ i, i < kd.length → ad i = b + i) : mv_Ct l b ad D cA kd yX7_keepWay cX7_keepWay 3 none 0 (sX7_keepWay kd) := by
  refine mv_introF (rk := 0) tX7_keepWay (mv_pf plRX7) kX7_keepWay had ⟨(fun _ => rfl), (fun e => by cases e), (fun e => by cases e), (fun e => by cases e), (fun e => by cases e)⟩ (oX7_keepWay had) ?_
  intro h as hp
  obtain ⟨x0, x1, rfl, hq⟩ := ms_ai_inv hp
  refine ⟨Nat.le_of_ble_eq_true rfl, fun X hX => ?_⟩
  show X 0 [some (.ref x0), some (.int x1), none] [] h
  obtain ⟨hm, ⟨e1, h1⟩⟩ := hq
  obtain ⟨⟨k0, k1, k2, k3, k4, k5, k6, k7, k8, k9, k10, k11, k12, k13, k14, k15, k16, k17, k18, k19, k20⟩, ⟨r0, r1, r4, r5, r6, r9, r11, r12, r14, r15, r16, r17, r18, r19, r20, r21, r22, r23, r24, r25⟩⟩ := id hm
  generalize q1 : x1.toNatClampNeg = n at *
  subst e1
  have loop : ∀ k, k ≤ 16 → X 7 [some (.ref x0), some (.int (nI n)), some (.int (nI k))] [] (fillA (mv_si h x0 10 (nI n)) (x0 + 6) (cpF (h.2.1 (x0 + 17)) (h.2.1 (x0 + 6)) k)) := by
    refine mv_up 16 ?_
    intro k hk ih
    have ck : (nI k).toNatClampNeg = k := nI_clamp (by omega)
    have b17 : ∀ f, (fillA (mv_si h x0 10 (nI n)) (x0 + 6) f).2.1 (x0 + 17) = h.2.1 (x0 + 17) := fun f => by rw [fillA_ne (by omega)]; rfl
    refine mv_go hX 60 ?_
    simp only [mv_wps, mv_exq, mv_exr, mv_exn, mv_xg, mv_xpi, mv_xpl, mv_xpr, mv_xc, mv_xc2, mv_xs, mv_9z, mv_cqs, mv_calls, mv_lgz, mv_stz, mv_kz, mv_cz, mv_fvs, mv_ats, mv_ics, mv_rz, mv_tz, mv_cns, mv_nfs, mv_fins, mv_det, mv_cc, mv_c0, Nat.reduceAdd, Nat.reduceEqDiff, Nat.reduceLT, Nat.reduceLeDiff, Nat.reduceSub, reduceIte, decide_false, decide_true, Bool.false_eq_true, List.map_cons, List.map_nil, List.sum_cons, List.sum_nil, true_and, and_true, true_or, or_true, false_or, or_false, false_and, and_false, true_implies, false_implies, implies_true, not_true_eq_false, not_false_eq_true, lg_cmp_ge, lg_cmp_le, lg_cmp_gt, lg_cmp_lt, lg_cmp_eq, qX7_keepWay, flX7s, cIX7s, cLX7s, csX7_keepWay, sX7_keepWay, ms_ai, k0, fillA_R, mv_siR, r9, r22, mv_lenK k6, mv_lenK k17, ck, b17, fillA_set, cpF_s, q1]
    refine ⟨fun hz => ?_, fun hz => ?_⟩
    · have hz : nI 16 ≤ nI k := hz
      rw [nI_leI (by omega) (by omega)] at hz
      obtain rfl : k = 16 := by omega
      unfold moKw gW
      congr 1
      funext j
      unfold cpF
      by_cases z : j < 16
      · rw [if_pos z, if_pos z, gM_in (by omega) (by omega)]
        unfold gE
        rw [show 4 * (j / 4) + j % 4 = j by omega]
      · rw [if_neg z, if_neg z]
        rfl
    · have hz : ¬ nI 16 ≤ nI k := hz
      rw [nI_leI (by omega) (by omega)] at hz
      have w := ih (by omega)
      rw [nI_1]
      exact ⟨vp_in_nI (by omega) (by omega), vp_in_nI (by omega) (by omega), w⟩
  refine mv_go hX 60 ?_
  simp only [mv_wps, mv_exq, mv_exr, mv_exn, mv_xg, mv_xpi, mv_xpl, mv_xpr, mv_xc, mv_xc2, mv_xs, mv_9z, mv_cqs, mv_calls, mv_lgz, mv_stz, mv_kz, mv_cz, mv_fvs, mv_ats, mv_ics, mv_rz, mv_tz, mv_cns, mv_nfs, mv_fins, mv_det, mv_cc, mv_c0, Nat.reduceAdd, Nat.reduceEqDiff, Nat.reduceLT, Nat.reduceLeDiff, Nat.reduceSub, reduceIte, decide_false, decide_true, Bool.false_eq_true, List.map_cons, List.map_nil, List.sum_cons, List.sum_nil, true_and, and_true, true_or, or_true, false_or, or_false, false_and, and_false, true_implies, false_implies, implies_true, not_true_eq_false, not_false_eq_true, lg_cmp_ge, lg_cmp_le, lg_cmp_gt, lg_cmp_lt, lg_cmp_eq, qX7_keepWay, flX7s, cIX7s, cLX7s, csX7_keepWay, sX7_keepWay, ms_ai, k0]
  have w := loop 0 (by omega)
  rw [cpF_0, show h.2.1 (x0 + 6) = (mv_si h x0 10 (nI n)).2.1 (x0 + 6) from rfl, fillA_self] at w
  exact w
/-! roots, powers, remainders -/
def btF (k : Nat) : Int64 := if k = 0 then 0 else Int64.ofNat (2 ^ (k - 1))
theorem bt_all : ∀ k : Fin 33, (btF k.val >>> ((1 : Int32).toInt64 &&& 63) = btF (k.val - 1)) ∧ (k.val = 0 → btF k.val ≤ 0) ∧ (k.val ≠ 0 → ¬ btF k.val ≤ 0) := by decide +kernel
def rbF (v : Int64) : Nat → Int64 → Int64
  | 0, r => r
  | k + 1, r => rbF v k (if (r + btF (k + 1)) * (r + btF (k + 1)) ≤ v then r + btF (k + 1) else r)
def sX7_root (_ : List (Nat × Nat)) : mv_S := ms_l (fun _ _ => True) (fun x h v h' => v = some (.long (rbF x 32 0)) ∧ h' = h)
noncomputable def csX7_root (kd : List (Nat × Nat)) : mv_CS := mv_c0
theorem oX7_root {l : Launch} {b : Nat} {ad : Nat → Nat} {D : va_G} {cA : Nat → ClassId} {kd : List (Nat × Nat)} (had : ∀ i, i < kd.length → ad i = b + i) : mv_Own l (mv_room 0) b ad D cA kd RX7 flX7 cIX7 cLX7 (csX7_root kd) := (mv_o0 flX7_ok cIX7_ok cLX7_ok)
set_option maxRecDepth 100000 in
set_option maxHeartbeats 4000000 in
theorem ctX7_root {l : Launch} {b : Nat} {ad : Nat → Nat} {D : va_G} {cA : Nat → ClassId} {kd : List (Nat × Nat)} (had : ∀ i, i < kd.length → ad i = b + i) : mv_Ct l b ad D cA kd yX7_root cX7_root 6 (some .long) 0 (sX7_root kd) := by
  refine mv_introF (rk := 3) tX7_root (mv_pf plRX7) kX7_root had ⟨(fun e => by cases e), (fun e => by cases e), (fun e => by cases e), (fun _ => rfl), (fun e => by cases e)⟩ (oX7_root had) ?_
  intro h as hp
  obtain ⟨x0, rfl, hq⟩ := ms_l_inv hp
  refine ⟨Nat.le_of_ble_eq_true rfl, fun X hX => ?_⟩
  show X 0 [some (.long x0), none, none, none, none, none] [] h
  have loop : ∀ k, k ≤ 32 → ∀ r, rbF x0 k r = rbF x0 32 0 → X 7 [some (.long x0), none, some (.long r), none, some (.long (btF k)), none] [] h := by
    intro k
    induction k with
    | zero =>
      intro hk r he
      have hb := (bt_all 0).2.1 rfl
      have hb : btF 0 ≤ 0 := hb
      rw [rbF] at he
      refine mv_go hX 60 ?_
      simp only [mv_wps, mv_exq, mv_exr, mv_exn, mv_xg, mv_xpi, mv_xpl, mv_xpr, mv_xc, mv_xc2, mv_xs, mv_9z, mv_cqs, mv_calls, mv_lgz, mv_stz, mv_kz, mv_cz, mv_fvs, mv_ats, mv_ics, mv_rz, mv_tz, mv_cns, mv_nfs, mv_fins, mv_det, mv_cc, mv_c0, Nat.reduceAdd, Nat.reduceEqDiff, Nat.reduceLT, Nat.reduceLeDiff, Nat.reduceSub, reduceIte, decide_false, decide_true, Bool.false_eq_true, List.map_cons, List.map_nil, List.sum_cons, List.sum_nil, true_and, and_true, true_or, or_true, false_or, or_false, false_and, and_false, true_implies, false_implies, implies_true, not_true_eq_false, not_false_eq_true, lg_cmp_ge, lg_cmp_le, lg_cmp_gt, lg_cmp_lt, lg_cmp_eq, qX7_root, flX7s, cIX7s, cLX7s, csX7_root, sX7_root, ms_l, hb]
      rw [he]
    | succ k ihk =>
      intro hk r he
      obtain ⟨b1, -, b3⟩ := bt_all ⟨k + 1, by omega⟩
      have b1 : btF (k + 1) >>> ((1 : Int32).toInt64 &&& 63) = btF k := b1
      have b3 : ¬ btF (k + 1) ≤ 0 := b3 (by show k + 1 ≠ 0; omega)
      rw [rbF] at he
      refine mv_go hX 60 ?_
      simp only [mv_wps, mv_exq, mv_exr, mv_exn, mv_xg, mv_xpi, mv_xpl, mv_xpr, mv_xc, mv_xc2, mv_xs, mv_9z, mv_cqs, mv_calls, mv_lgz, mv_stz, mv_kz, mv_cz, mv_fvs, mv_ats, mv_ics, mv_rz, mv_tz, mv_cns, mv_nfs, mv_fins, mv_det, mv_cc, mv_c0, Nat.reduceAdd, Nat.reduceEqDiff, Nat.reduceLT, Nat.reduceLeDiff, Nat.reduceSub, reduceIte, decide_false, decide_true, Bool.false_eq_true, List.map_cons, List.map_nil, List.sum_cons, List.sum_nil, true_and, and_true, true_or, or_true, false_or, or_false, false_and, and_false, true_implies, false_implies, implies_true, not_true_eq_false, not_false_eq_true, lg_cmp_ge, lg_cmp_le, lg_cmp_gt, lg_cmp_lt, lg_cmp_eq, qX7_root, flX7s, cIX7s, cLX7s, csX7_root, sX7_root, ms_l, b3, b1]
      refine ⟨fun hy => ?_, fun hy => ?_⟩
      · first
        | (rw [if_pos hy] at he; exact ihk (by omega) _ he)
        | (rw [if_neg (Int64.not_le.mpr hy)] at he; exact ihk (by omega) _ he)
      · first
        | (rw [if_neg hy] at he; exact ihk (by omega) _ he)
        | (rw [if_pos (Int64.not_lt.mp hy)] at he; exact ihk (by omega) _ he)
  refine mv_go hX 60 ?_
  simp only [mv_wps, mv_exq, mv_exr, mv_exn, mv_xg, mv_xpi, mv_xpl, mv_xpr, mv_xc, mv_xc2, mv_xs, mv_9z, mv_cqs, mv_calls, mv_lgz, mv_stz, mv_kz, mv_cz, mv_fvs, mv_ats, mv_ics, mv_rz, mv_tz, mv_cns, mv_nfs, mv_fins, mv_det, mv_cc, mv_c0, Nat.reduceAdd, Nat.reduceEqDiff, Nat.reduceLT, Nat.reduceLeDiff, Nat.reduceSub, reduceIte, decide_false, decide_true, Bool.false_eq_true, List.map_cons, List.map_nil, List.sum_cons, List.sum_nil, true_and, and_true, true_or, or_true, false_or, or_false, false_and, and_false, true_implies, false_implies, implies_true, not_true_eq_false, not_false_eq_true, lg_cmp_ge, lg_cmp_le, lg_cmp_gt, lg_cmp_lt, lg_cmp_eq, qX7_root, flX7s, cIX7s, cLX7s, csX7_root, sX7_root, ms_l]
  exact loop 32 (by omega) 0 rfl
def sX7_power (_ : List (Nat × Nat)) : mv_S := ms_li (fun _ e _ => isN e 5) (fun x e h v h' => v = some (.long (pwF x e.toNatClampNeg)) ∧ h' = h)
noncomputable def csX7_power (kd : List (Nat × Nat)) : mv_CS := mv_c0
theorem oX7_power {l : Launch} {b : Nat} {ad : Nat → Nat} {D : va_G} {cA : Nat → ClassId} {kd : List (Nat × Nat)} (had : ∀ i, i < kd.length → ad i = b + i) : mv_Own l (mv_room 0) b ad D cA kd RX7 flX7 cIX7 cLX7 (csX7_power kd) := (mv_o0 flX7_ok cIX7_ok cLX7_ok)
set_option maxRecDepth 100000 in
set_option maxHeartbeats 4000000 in
theorem ctX7_power {l : Launch} {b : Nat} {ad : Nat → Nat} {D : va_G} {cA : Nat → ClassId} {kd : List (Nat × Nat)} (had : ∀ i, i < kd.length → ad i = b + i) : mv_Ct l b ad D cA kd yX7_power cX7_power 6 (some .long) 0 (sX7_power kd) := by
  refine mv_introF (rk := 3) tX7_power (mv_pf plRX7) kX7_power had ⟨(fun e => by cases e), (fun e => by cases e), (fun e => by cases e), (fun _ => rfl), (fun e => by cases e)⟩ (oX7_power had) ?_
  intro h as hp
  obtain ⟨x0, x1, rfl, hq⟩ := ms_li_inv hp
  refine ⟨Nat.le_of_ble_eq_true rfl, fun X hX => ?_⟩
  show X 0 [some (.long x0), none, some (.int x1), none, none, none] [] h
  obtain ⟨e1, h1⟩ := hq
  generalize hn : x1.toNatClampNeg = n at e1 h1
  subst e1
  have loop : ∀ i, i ≤ n → X 5 [some (.long x0), none, some (.int (nI n)), some (.long (pwF x0 i)), none, some (.int (nI i))] [] h := by
    refine mv_up n ?_
    intro i hi ih
    refine mv_go hX 60 ?_
    simp only [mv_wps, mv_exq, mv_exr, mv_exn, mv_xg, mv_xpi, mv_xpl, mv_xpr, mv_xc, mv_xc2, mv_xs, mv_9z, mv_cqs, mv_calls, mv_lgz, mv_stz, mv_kz, mv_cz, mv_fvs, mv_ats, mv_ics, mv_rz, mv_tz, mv_cns, mv_nfs, mv_fins, mv_det, mv_cc, mv_c0, Nat.reduceAdd, Nat.reduceEqDiff, Nat.reduceLT, Nat.reduceLeDiff, Nat.reduceSub, reduceIte, decide_false, decide_true, Bool.false_eq_true, List.map_cons, List.map_nil, List.sum_cons, List.sum_nil, true_and, and_true, true_or, or_true, false_or, or_false, false_and, and_false, true_implies, false_implies, implies_true, not_true_eq_false, not_false_eq_true, lg_cmp_ge, lg_cmp_le, lg_cmp_gt, lg_cmp_lt, lg_cmp_eq, qX7_power, flX7s, cIX7s, cLX7s, csX7_power, sX7_power, ms_li]
    rw [hn]
    refine ⟨fun hc => ?_, fun hc => ?_⟩
    · rw [nI_leI (by omega) (by omega)] at hc
      obtain rfl : i = n := by omega
      rfl
    · rw [nI_leI (by omega) (by omega)] at hc
      rw [nI_1]
      exact ih (by omega)
  refine mv_go hX 60 ?_
  simp only [mv_wps, mv_exq, mv_exr, mv_exn, mv_xg, mv_xpi, mv_xpl, mv_xpr, mv_xc, mv_xc2, mv_xs, mv_9z, mv_cqs, mv_calls, mv_lgz, mv_stz, mv_kz, mv_cz, mv_fvs, mv_ats, mv_ics, mv_rz, mv_tz, mv_cns, mv_nfs, mv_fins, mv_det, mv_cc, mv_c0, Nat.reduceAdd, Nat.reduceEqDiff, Nat.reduceLT, Nat.reduceLeDiff, Nat.reduceSub, reduceIte, decide_false, decide_true, Bool.false_eq_true, List.map_cons, List.map_nil, List.sum_cons, List.sum_nil, true_and, and_true, true_or, or_true, false_or, or_false, false_and, and_false, true_implies, false_implies, implies_true, not_true_eq_false, not_false_eq_true, lg_cmp_ge, lg_cmp_le, lg_cmp_gt, lg_cmp_lt, lg_cmp_eq, qX7_power, flX7s, cIX7s, cLX7s, csX7_power, sX7_power, ms_li]
  exact loop 0 (by omega)
def mdF (v p : Int64) : Int64 := if lrm v p < 0 then lrm v p + p else lrm v p
def sX7_modulo (_ : List (Nat × Nat)) : mv_S := ms_ll (fun _ p _ => ¬ p = 0) (fun x p h v h' => v = some (.long (mdF x p)) ∧ h' = h)
noncomputable def csX7_modulo (kd : List (Nat × Nat)) : mv_CS := mv_c0
theorem oX7_modulo {l : Launch} {b : Nat} {ad : Nat → Nat} {D : va_G} {cA : Nat → ClassId} {kd : List (Nat × Nat)} (had : ∀ i, i < kd.length → ad i = b + i) : mv_Own l (mv_room 0) b ad D cA kd RX7 flX7 cIX7 cLX7 (csX7_modulo kd) := (mv_o0 flX7_ok cIX7_ok cLX7_ok)
set_option maxRecDepth 100000 in
set_option maxHeartbeats 4000000 in
theorem ctX7_modulo {l : Launch} {b : Nat} {ad : Nat → Nat} {D : va_G} {cA : Nat → ClassId} {kd : List (Nat × Nat)} (had : ∀ i, i < kd.length → ad i = b + i) : mv_Ct l b ad D cA kd yX7_modulo cX7_modulo 6 (some .long) 0 (sX7_modulo kd) := by
  refine mv_introF (rk := 3) tX7_modulo (mv_pf plRX7) kX7_modulo had ⟨(fun e => by cases e), (fun e => by cases e), (fun e => by cases e), (fun _ => rfl), (fun e => by cases e)⟩ (oX7_modulo had) ?_
  intro h as hp
  obtain ⟨x0, x1, rfl, hq⟩ := ms_ll_inv hp
  refine ⟨Nat.le_of_ble_eq_true rfl, fun X hX => ?_⟩
  show X 0 [some (.long x0), none, some (.long x1), none, none, none] [] h
  have hq : ¬ x1 = 0 := hq
  refine mv_go hX 60 ?_
  simp only [mv_wps, mv_exq, mv_exr, mv_exn, mv_xg, mv_xpi, mv_xpl, mv_xpr, mv_xc, mv_xc2, mv_xs, mv_9z, mv_cqs, mv_calls, mv_lgz, mv_stz, mv_kz, mv_cz, mv_fvs, mv_ats, mv_ics, mv_rz, mv_tz, mv_cns, mv_nfs, mv_fins, mv_det, mv_cc, mv_c0, Nat.reduceAdd, Nat.reduceEqDiff, Nat.reduceLT, Nat.reduceLeDiff, Nat.reduceSub, reduceIte, decide_false, decide_true, Bool.false_eq_true, List.map_cons, List.map_nil, List.sum_cons, List.sum_nil, true_and, and_true, true_or, or_true, false_or, or_false, false_and, and_false, true_implies, false_implies, implies_true, not_true_eq_false, not_false_eq_true, lg_cmp_ge, lg_cmp_le, lg_cmp_gt, lg_cmp_lt, lg_cmp_eq, qX7_modulo, flX7s, cIX7s, cLX7s, csX7_modulo, sX7_modulo, ms_ll, hq]
  refine ⟨fun hy => ?_, fun hy => ?_⟩
  · have hy : 0 ≤ lrm x0 x1 := hy
    rw [mdF, if_neg (Int64.not_lt.mpr hy)]
    rfl
  · have hy : ¬ 0 ≤ lrm x0 x1 := hy
    rw [mdF, if_pos (Int64.not_le.mp hy)]
    rfl
def dnF (v y : Int64) : Int64 := if v < 0 then - ((y - 1 - v) / y) else v / y
def sX7_down (_ : List (Nat × Nat)) : mv_S := ms_ll (fun _ p _ => ¬ p = 0) (fun x p h v h' => v = some (.long (dnF x p)) ∧ h' = h)
noncomputable def csX7_down (kd : List (Nat × Nat)) : mv_CS := mv_c0
theorem oX7_down {l : Launch} {b : Nat} {ad : Nat → Nat} {D : va_G} {cA : Nat → ClassId} {kd : List (Nat × Nat)} (had : ∀ i, i < kd.length → ad i = b + i) : mv_Own l (mv_room 0) b ad D cA kd RX7 flX7 cIX7 cLX7 (csX7_down kd) := (mv_o0 flX7_ok cIX7_ok cLX7_ok)
set_option maxRecDepth 100000 in
set_option maxHeartbeats 4000000 in
theorem ctX7_down {l : Launch} {b : Nat} {ad : Nat → Nat} {D : va_G} {cA : Nat → ClassId} {kd : List (Nat × Nat)} (had : ∀ i, i < kd.length → ad i = b + i) : mv_Ct l b ad D cA kd yX7_down cX7_down 4 (some .long) 0 (sX7_down kd) := by
  refine mv_introF (rk := 3) tX7_down (mv_pf plRX7) kX7_down had ⟨(fun e => by cases e), (fun e => by cases e), (fun e => by cases e), (fun _ => rfl), (fun e => by cases e)⟩ (oX7_down had) ?_
  intro h as hp
  obtain ⟨x0, x1, rfl, hq⟩ := ms_ll_inv hp
  refine ⟨Nat.le_of_ble_eq_true rfl, fun X hX => ?_⟩
  show X 0 [some (.long x0), none, some (.long x1), none] [] h
  have hq : ¬ x1 = 0 := hq
  refine mv_go hX 60 ?_
  simp only [mv_wps, mv_exq, mv_exr, mv_exn, mv_xg, mv_xpi, mv_xpl, mv_xpr, mv_xc, mv_xc2, mv_xs, mv_9z, mv_cqs, mv_calls, mv_lgz, mv_stz, mv_kz, mv_cz, mv_fvs, mv_ats, mv_ics, mv_rz, mv_tz, mv_cns, mv_nfs, mv_fins, mv_det, mv_cc, mv_c0, Nat.reduceAdd, Nat.reduceEqDiff, Nat.reduceLT, Nat.reduceLeDiff, Nat.reduceSub, reduceIte, decide_false, decide_true, Bool.false_eq_true, List.map_cons, List.map_nil, List.sum_cons, List.sum_nil, true_and, and_true, true_or, or_true, false_or, or_false, false_and, and_false, true_implies, false_implies, implies_true, not_true_eq_false, not_false_eq_true, lg_cmp_ge, lg_cmp_le, lg_cmp_gt, lg_cmp_lt, lg_cmp_eq, qX7_down, flX7s, cIX7s, cLX7s, csX7_down, sX7_down, ms_ll, hq]
  refine ⟨fun hy => ?_, fun hy => ?_⟩
  · rw [dnF, if_pos hy]
  · rw [dnF, if_neg hy]
def ivF (p : Int64) : Nat → Int64 → Int64 → Int64 → Int64
  | 0, _, r, _ => r
  | n + 1, e, r, s => if e ≤ 0 then r else ivF p n (e >>> ((1 : Int32).toInt64 &&& 63)) (if e &&& 1 = 1 then lrm (r * s) p else r) (lrm (s * s) p)
def sX7_inverse (_ : List (Nat × Nat)) : mv_S := ms_ll (fun _ p _ => ¬ p = 0) (fun x p h v h' => v = some (.long (ivF p 63 (p - 2) 1 x)) ∧ h' = h)
noncomputable def csX7_inverse (kd : List (Nat × Nat)) : mv_CS := mv_c0
theorem oX7_inverse {l : Launch} {b : Nat} {ad : Nat → Nat} {D : va_G} {cA : Nat → ClassId} {kd : List (Nat × Nat)} (had : ∀ i, i < kd.length → ad i = b + i) : mv_Own l (mv_room 0) b ad D cA kd RX7 flX7 cIX7 cLX7 (csX7_inverse kd) := (mv_o0 flX7_ok cIX7_ok cLX7_ok)
set_option maxRecDepth 100000 in
set_option maxHeartbeats 4000000 in
theorem ctX7_inverse {l : Launch} {b : Nat} {ad : Nat → Nat} {D : va_G} {cA : Nat → ClassId} {kd : List (Nat × Nat)} (had : ∀ i, i < kd.length → ad i = b + i) : mv_Ct l b ad D cA kd yX7_inverse cX7_inverse 10 (some .long) 0 (sX7_inverse kd) := by
  refine mv_introF (rk := 3) tX7_inverse (mv_pf plRX7) kX7_inverse had ⟨(fun e => by cases e), (fun e => by cases e), (fun e => by cases e), (fun _ => rfl), (fun e => by cases e)⟩ (oX7_inverse had) ?_
  intro h as hp
  obtain ⟨x0, x1, rfl, hq⟩ := ms_ll_inv hp
  refine ⟨Nat.le_of_ble_eq_true rfl, fun X hX => ?_⟩
  show X 0 [some (.long x0), none, some (.long x1), none, none, none, none, none, none, none] [] h
  have hq : ¬ x1 = 0 := hq
  have loop : ∀ n e r s, e.toInt < 2 ^ n → ivF x1 n e r s = ivF x1 63 (x1 - 2) 1 x0 → X 13 [some (.long x0), none, some (.long x1), none, some (.long r), none, some (.long s), none, some (.long e), none] [] h := by
    intro n
    induction n with
    | zero =>
      intro e r s hn he
      have h0 : e ≤ 0 := by
        rw [i64_le]
        have : (0 : Int64).toInt = 0 := by decide
        rw [this]
        omega
      rw [ivF] at he
      refine mv_go hX 60 ?_
      simp only [mv_wps, mv_exq, mv_exr, mv_exn, mv_xg, mv_xpi, mv_xpl, mv_xpr, mv_xc, mv_xc2, mv_xs, mv_9z, mv_cqs, mv_calls, mv_lgz, mv_stz, mv_kz, mv_cz, mv_fvs, mv_ats, mv_ics, mv_rz, mv_tz, mv_cns, mv_nfs, mv_fins, mv_det, mv_cc, mv_c0, Nat.reduceAdd, Nat.reduceEqDiff, Nat.reduceLT, Nat.reduceLeDiff, Nat.reduceSub, reduceIte, decide_false, decide_true, Bool.false_eq_true, List.map_cons, List.map_nil, List.sum_cons, List.sum_nil, true_and, and_true, true_or, or_true, false_or, or_false, false_and, and_false, true_implies, false_implies, implies_true, not_true_eq_false, not_false_eq_true, lg_cmp_ge, lg_cmp_le, lg_cmp_gt, lg_cmp_lt, lg_cmp_eq, qX7_inverse, flX7s, cIX7s, cLX7s, csX7_inverse, sX7_inverse, ms_ll, h0]
      rw [he]
    | succ n ihn =>
      intro e r s hn he
      rw [ivF] at he
      refine mv_go hX 60 ?_
      simp only [mv_wps, mv_exq, mv_exr, mv_exn, mv_xg, mv_xpi, mv_xpl, mv_xpr, mv_xc, mv_xc2, mv_xs, mv_9z, mv_cqs, mv_calls, mv_lgz, mv_stz, mv_kz, mv_cz, mv_fvs, mv_ats, mv_ics, mv_rz, mv_tz, mv_cns, mv_nfs, mv_fins, mv_det, mv_cc, mv_c0, Nat.reduceAdd, Nat.reduceEqDiff, Nat.reduceLT, Nat.reduceLeDiff, Nat.reduceSub, reduceIte, decide_false, decide_true, Bool.false_eq_true, List.map_cons, List.map_nil, List.sum_cons, List.sum_nil, true_and, and_true, true_or, or_true, false_or, or_false, false_and, and_false, true_implies, false_implies, implies_true, not_true_eq_false, not_false_eq_true, lg_cmp_ge, lg_cmp_le, lg_cmp_gt, lg_cmp_lt, lg_cmp_eq, qX7_inverse, flX7s, cIX7s, cLX7s, csX7_inverse, sX7_inverse, ms_ll, hq]
      refine ⟨fun h0 => ?_, fun h0 => ?_⟩
      · rw [if_pos h0] at he
        rw [he]
      · rw [if_neg h0] at he
        have hsh : (e >>> ((1 : Int32).toInt64 &&& 63)).toInt < 2 ^ n := by
          rw [i64_shr1]
          have : (2 : Int) ^ (n + 1) = 2 ^ n * 2 := Int.pow_succ 2 n
          omega
        refine ⟨fun h1 => ?_, fun h1 => ?_⟩
        · rw [if_neg h1] at he
          exact ihn _ _ _ hsh he
        · rw [if_pos (Classical.not_not.mp h1)] at he
          exact ihn _ _ _ hsh he
  refine mv_go hX 60 ?_
  simp only [mv_wps, mv_exq, mv_exr, mv_exn, mv_xg, mv_xpi, mv_xpl, mv_xpr, mv_xc, mv_xc2, mv_xs, mv_9z, mv_cqs, mv_calls, mv_lgz, mv_stz, mv_kz, mv_cz, mv_fvs, mv_ats, mv_ics, mv_rz, mv_tz, mv_cns, mv_nfs, mv_fins, mv_det, mv_cc, mv_c0, Nat.reduceAdd, Nat.reduceEqDiff, Nat.reduceLT, Nat.reduceLeDiff, Nat.reduceSub, reduceIte, decide_false, decide_true, Bool.false_eq_true, List.map_cons, List.map_nil, List.sum_cons, List.sum_nil, true_and, and_true, true_or, or_true, false_or, or_false, false_and, and_false, true_implies, false_implies, implies_true, not_true_eq_false, not_false_eq_true, lg_cmp_ge, lg_cmp_le, lg_cmp_gt, lg_cmp_lt, lg_cmp_eq, qX7_inverse, flX7s, cIX7s, cLX7s, csX7_inverse, sX7_inverse, ms_ll]
  exact loop 63 (x1 - 2) 1 x0 (i64_rng _).2 rfl
