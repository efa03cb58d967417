/-! The reference: a row put in. -/
def frS (fr : Nat → Int64) (c p q : Nat) : Nat → Int64 := fun x => if (4 * p + 4 ≤ x ∧ x < 4 * c + 4) ∨ (4 * p ≤ x ∧ x < 4 * p + q) then fr (x - 4) else fr x
def nwF (now : Nat → Int64) (n k : Nat) : Int64 := if k < n then now k else 0
def frN (fr now : Nat → Int64) (n c p q : Nat) : Nat → Int64 := fun x => if 4 * p ≤ x ∧ x < 4 * p + q then nwF now n (x - 4 * p) else frS fr c p 0 x
def moFc (h : mv_M) (m : Nat) : Nat := (h.1 m 13).toNatClampNeg
def moPp (h : mv_M) (m : Nat) (z : Int64) : Nat := pnF (h.2.1 (m + 8)) z (moFc h m)
def moPut (h : mv_M) (m n : Nat) (z : Int64) : mv_M := mv_si (fillA (fillA h (m + 8) (upL (psF (h.2.1 (m + 8)) (moFc h m) (moPp h m z)) (moPp h m z) z)) (m + 7) (frN (h.2.1 (m + 7)) (h.2.1 (m + 11)) n (moFc h m) (moPp h m z) 4)) m 13 (nI (moFc h m + 1))
def sX7_putIn (kd : List (Nat × Nat)) : mv_S := ms_ail (fun m n _ h => moOk kd h m ∧ isN n 5 ∧ isN (h.1 m 13) 1001) (fun m n z h v h' => v = none ∧ h' = moPut h m n.toNatClampNeg z)
theorem frS_4 (fr : Nat → Int64) (c p : Nat) (hp : 1 ≤ p) (hc : p ≤ c) : frS fr c p 4 = frS fr c (p - 1) 0 := by
  funext x
  unfold frS
  by_cases z : 4 * p ≤ x ∧ x < 4 * c + 4
  · rw [if_pos (by omega), if_pos (by omega)]
  · rw [if_neg (by omega), if_neg (by omega)]
noncomputable def csX7_putIn (kd : List (Nat × Nat)) : mv_CS := mv_c0
theorem oX7_putIn {l : Launch} {b : Nat} {ad : Nat → Nat} {D : va_G} {cA : Nat → ClassId} {kd : List (Nat × Nat)} (had : ∀ i, i < kd.length → ad i = b + i) : mv_Own l (mv_room 0) b ad D cA kd RX7 flX7 cIX7 cLX7 (csX7_putIn kd) := (mv_o0 flX7_ok cIX7_ok cLX7_ok)
set_option maxRecDepth 100000 in
set_option maxHeartbeats 4000000 in
theorem ctX7_putIn {l : Launch} {b : Nat} {ad : Nat → Nat} {D : va_G} {cA : Nat → ClassId} {kd : List (Nat × Nat)} (had : ∀ i, i < kd.length → ad i = b + i) : mv_Ct l b ad D cA kd yX7_putIn cX7_putIn 6 none 0 (sX7_putIn kd) := by
  refine mv_introF (rk := 0) tX7_putIn (mv_pf plRX7) kX7_putIn had ⟨(fun _ => rfl), (fun e => by cases e), (fun e => by cases e), (fun e => by cases e), (fun e => by cases e)⟩ (oX7_putIn had) ?_
  intro h as hp
  obtain ⟨x0, x1, x2, rfl, hq⟩ := ms_ail_inv hp
  refine ⟨Nat.le_of_ble_eq_true rfl, fun X hX => ?_⟩
  show X 0 [some (.ref x0), some (.int x1), some (.long x2), none, none, none] [] h
  obtain ⟨hm, ⟨e1, h1⟩, ⟨e2, h2⟩⟩ := hq
  obtain ⟨⟨k0, k1, k2, k3, k4, k5, k6, k7, k8, k9, k10, k11, k12, k13, k14, k15, k16, k17, k18, k19, k20⟩, ⟨r0, r1, r4, r5, r6, r9, r11, r12, r14, r15, r16, r17, r18, r19, r20, r21, r22, r23, r24, r25⟩⟩ := id hm
  generalize q1 : x1.toNatClampNeg = n at *
  subst e1
  have e2 : h.1 x0 13 = nI (moFc h x0) := e2
  have h2 : moFc h x0 < 1001 := h2
  have hPd : moPp h x0 x2 = pnF (h.2.1 (x0 + 8)) x2 (moFc h x0) := rfl
  have hput : moPut h x0 n x2 = mv_si (fillA (fillA h (x0 + 8) (upL (psF (h.2.1 (x0 + 8)) (moFc h x0) (moPp h x0 x2)) (moPp h x0 x2) x2)) (x0 + 7) (frN (h.2.1 (x0 + 7)) (h.2.1 (x0 + 11)) n (moFc h x0) (moPp h x0 x2) 4)) x0 13 (nI (moFc h x0 + 1)) := rfl
  generalize hc : moFc h x0 = c at *
  generalize hpp : moPp h x0 x2 = P at *
  have b7 : ∀ f g, (fillA (fillA h (x0 + 8) f) (x0 + 7) g).2.1 (x0 + 8) = f := fun f g => by rw [fillA_ne (by omega), fillA_o]
  have b11 : ∀ f g, (fillA (fillA h (x0 + 8) f) (x0 + 7) g).2.1 (x0 + 11) = h.2.1 (x0 + 11) := fun f g => by rw [fillA_ne (by omega), fillA_ne (by omega)]
  have s8 : ∀ f g i v, mv_sl (fillA (fillA h (x0 + 8) f) (x0 + 7) g) (x0 + 8) i v = fillA (fillA h (x0 + 8) (upL f i v)) (x0 + 7) g := fun f g i v => by
    rw [fillA_comm (show x0 + 8 ≠ x0 + 7 by omega), fillA_set, fillA_comm (show x0 + 7 ≠ x0 + 8 by omega)]
    rfl
  have fin : P ≤ c → ∀ q, q ≤ 4 → X 99 [some (.ref x0), some (.int (nI n)), some (.long x2), none, some (.int (nI P)), some (.int (nI q))] [] (fillA (fillA h (x0 + 8) (upL (psF (h.2.1 (x0 + 8)) c P) P x2)) (x0 + 7) (frN (h.2.1 (x0 + 7)) (h.2.1 (x0 + 11)) n c P q)) := by
    intro hPc
    refine mv_up 4 ?_
    intro q hq ih
    have ea : (4 : Int32) * nI P + nI q = nI (4 * P + q) := by rw [nI_c4, nI_mul, nI_add]
    have cq : (nI q).toNatClampNeg = q := nI_clamp (by omega)
    have cp : (nI (4 * P + q)).toNatClampNeg = 4 * P + q := nI_clamp (by omega)
    have vp : q < 4 → vp_in (nI (4 * P + q)) 4004 := fun z => vp_in_nI (by omega) (by omega)
    have hput' : moPut h x0 n x2 = mv_si (fillA (fillA h (x0 + 8) (upL (psF (h.2.1 (x0 + 8)) c P) P x2)) (x0 + 7) (frN (h.2.1 (x0 + 7)) (h.2.1 (x0 + 11)) n c P 4)) x0 13 (nI c + 1) := by rw [hput, nI_1]
    have nx : ∀ v, v = nwF (h.2.1 (x0 + 11)) n q → (fun j => if j = 4 * P + q then v else frN (h.2.1 (x0 + 7)) (h.2.1 (x0 + 11)) n c P q j) = frN (h.2.1 (x0 + 7)) (h.2.1 (x0 + 11)) n c P (q + 1) := fun v hv => by
      funext j
      unfold frN
      by_cases z1 : j = 4 * P + q
      · subst z1
        rw [if_pos rfl, if_pos (by omega), show 4 * P + q - 4 * P = q by omega, hv]
      · by_cases z2 : 4 * P ≤ j ∧ j < 4 * P + q
        · rw [if_neg z1, if_pos z2, if_pos (by omega)]
        · rw [if_neg z1, if_neg z2, if_neg (by omega)]
    refine mv_go hX 60 ?_
    simp only [mv_wps, mv_exq, mv_exr, mv_exn, mv_xg, mv_xpi, mv_xpl, mv_xpr, mv_xc, mv_xc2, mv_xs, mv_9z, mv_cqs, mv_calls, mv_lgz, mv_stz, mv_kz, mv_cz, mv_fvs, mv_ats, mv_ics, mv_rz, mv_tz, mv_cns, mv_nfs, mv_fins, mv_det, mv_cc, mv_c0, Nat.reduceAdd, Nat.reduceEqDiff, Nat.reduceLT, Nat.reduceLeDiff, Nat.reduceSub, reduceIte, decide_false, decide_true, Bool.false_eq_true, List.map_cons, List.map_nil, List.sum_cons, List.sum_nil, true_and, and_true, true_or, or_true, false_or, or_false, false_and, and_false, true_implies, false_implies, implies_true, not_true_eq_false, not_false_eq_true, lg_cmp_ge, lg_cmp_le, lg_cmp_gt, lg_cmp_lt, lg_cmp_eq, qX7_putIn, flX7s, cIX7s, cLX7s, csX7_putIn, sX7_putIn, ms_ail, k0, fillA_R, r11, r16, e2, mv_lenK k7, mv_lenK k11, ea, cq, cp, b11, fillA_set, q1]
    refine ⟨fun hz => ?_, fun hz => ?_⟩
    · have hz : nI 4 ≤ nI q := hz
      rw [nI_leI (by omega) (by omega)] at hz
      obtain rfl : q = 4 := by omega
      exact hput'.symm
    · have hz : ¬ nI 4 ≤ nI q := hz
      rw [nI_leI (by omega) (by omega)] at hz
      have w := ih (by omega)
      rw [nI_1]
      refine ⟨fun hy => ?_, fun hy => ?_⟩
      · rw [nI_leI (by omega) (by omega)] at hy
        rw [nx 0 (by rw [nwF, if_neg (by omega)])]
        exact ⟨vp (by omega), w⟩
      · rw [nI_leI (by omega) (by omega)] at hy
        rw [nx (h.2.1 (x0 + 11) q) (by rw [nwF, if_pos (by omega)])]
        exact ⟨vp_in_nI (by omega) (by omega), vp (by omega), w⟩
  have start : P ≤ c → ∀ o, X 88 [some (.ref x0), some (.int (nI n)), some (.long x2), none, some (.int (nI P)), o] [] (fillA (fillA h (x0 + 8) (psF (h.2.1 (x0 + 8)) c P)) (x0 + 7) (frS (h.2.1 (x0 + 7)) c P 0)) := by
    intro hPc o
    have w := fin hPc 0 (by omega)
    have e : frN (h.2.1 (x0 + 7)) (h.2.1 (x0 + 11)) n c P 0 = frS (h.2.1 (x0 + 7)) c P 0 := by
      funext x
      unfold frN
      rw [if_neg (by omega)]
    rw [e] at w
    refine mv_go hX 20 ?_
    simp only [mv_wps, mv_exq, mv_exr, mv_exn, mv_xg, mv_xpi, mv_xpl, mv_xpr, mv_xc, mv_xc2, mv_xs, mv_9z, mv_cqs, mv_calls, mv_lgz, mv_stz, mv_kz, mv_cz, mv_fvs, mv_ats, mv_ics, mv_rz, mv_tz, mv_cns, mv_nfs, mv_fins, mv_det, mv_cc, mv_c0, Nat.reduceAdd, Nat.reduceEqDiff, Nat.reduceLT, Nat.reduceLeDiff, Nat.reduceSub, reduceIte, decide_false, decide_true, Bool.false_eq_true, List.map_cons, List.map_nil, List.sum_cons, List.sum_nil, true_and, and_true, true_or, or_true, false_or, or_false, false_and, and_false, true_implies, false_implies, implies_true, not_true_eq_false, not_false_eq_true, lg_cmp_ge, lg_cmp_le, lg_cmp_gt, lg_cmp_lt, lg_cmp_eq, qX7_putIn, flX7s, cIX7s, cLX7s, csX7_putIn, sX7_putIn, ms_ail, k0, fillA_R, r12, mv_lenK k8, s8, nI_clamp (show P < 2 ^ 31 by omega)]
    exact ⟨vp_in_nI (by omega) (by omega), w⟩
  have loop : ∀ p, p ≤ c → pnF (h.2.1 (x0 + 8)) x2 p = P → ∀ o, X 6 [some (.ref x0), some (.int (nI n)), some (.long x2), none, some (.int (nI p)), o] [] (fillA (fillA h (x0 + 8) (psF (h.2.1 (x0 + 8)) c p)) (x0 + 7) (frS (h.2.1 (x0 + 7)) c p 0)) := by
    intro p
    induction p with
    | zero =>
      intro hp he o
      rw [pnF] at he
      subst he
      have hz : nI 0 ≤ 0 := by decide
      refine mv_go hX 1 ?_
      simp only [mv_wps, mv_exq, mv_exr, mv_exn, mv_xg, mv_xpi, mv_xpl, mv_xpr, mv_xc, mv_xc2, mv_xs, mv_9z, mv_cqs, mv_calls, mv_lgz, mv_stz, mv_kz, mv_cz, mv_fvs, mv_ats, mv_ics, mv_rz, mv_tz, mv_cns, mv_nfs, mv_fins, mv_det, mv_cc, mv_c0, Nat.reduceAdd, Nat.reduceEqDiff, Nat.reduceLT, Nat.reduceLeDiff, Nat.reduceSub, reduceIte, decide_false, decide_true, Bool.false_eq_true, List.map_cons, List.map_nil, List.sum_cons, List.sum_nil, true_and, and_true, true_or, or_true, false_or, or_false, false_and, and_false, true_implies, false_implies, implies_true, not_true_eq_false, not_false_eq_true, lg_cmp_ge, lg_cmp_le, lg_cmp_gt, lg_cmp_lt, lg_cmp_eq, qX7_putIn, flX7s, cIX7s, cLX7s, csX7_putIn, sX7_putIn, ms_ail, hz]
      exact start (by omega) o
    | succ p ihp =>
      intro hp he o
      have hz : ¬ nI (p + 1) ≤ 0 := by
        have := nI_ltI (a := 0) (b := p + 1) (by omega) (by omega)
        have h0 : (0 : Int32) < nI (p + 1) := this.mpr (by omega)
        exact Int32.not_le.mpr h0
      have e : nI (p + 1) - 1 = nI p := by rw [nI_pred1 (by omega)]; rfl
      have cp : (nI p).toNatClampNeg = p := nI_clamp (by omega)
      have cp1 : (nI (p + 1)).toNatClampNeg = p + 1 := nI_clamp (by omega)
      have hpf : psF (h.2.1 (x0 + 8)) c (p + 1) p = h.2.1 (x0 + 8) p := by
        unfold psF
        rw [if_neg (by omega)]
      have v1 : vp_in (nI p) 1001 := vp_in_nI (by omega) (by omega)
      have v2 : vp_in (nI (p + 1)) 1001 := vp_in_nI (by omega) (by omega)
      have inner : ∀ q, q ≤ 4 → x2 < h.2.1 (x0 + 8) p → X 44 [some (.ref x0), some (.int (nI n)), some (.long x2), none, some (.int (nI (p + 1))), some (.int (nI q))] [] (fillA (fillA h (x0 + 8) (psF (h.2.1 (x0 + 8)) c p)) (x0 + 7) (frS (h.2.1 (x0 + 7)) c (p + 1) q)) := by
        refine mv_up 4 ?_
        intro q hq ihq hlt
        have ea : (4 : Int32) * nI (p + 1) + nI q = nI (4 * (p + 1) + q) := by rw [nI_c4, nI_mul, nI_add]
        have eb : (4 : Int32) * nI p + nI q = nI (4 * p + q) := by rw [nI_c4, nI_mul, nI_add]
        have ca : (nI (4 * (p + 1) + q)).toNatClampNeg = 4 * (p + 1) + q := nI_clamp (by omega)
        have cb : (nI (4 * p + q)).toNatClampNeg = 4 * p + q := nI_clamp (by omega)
        have hfs : frS (h.2.1 (x0 + 7)) c (p + 1) q (4 * p + q) = h.2.1 (x0 + 7) (4 * p + q) ∨ 4 ≤ q := by
          by_cases z : q < 4
          · refine Or.inl ?_
            unfold frS
            rw [if_neg (by omega)]
          · exact Or.inr (by omega)
        refine mv_go hX 60 ?_
        simp only [mv_wps, mv_exq, mv_exr, mv_exn, mv_xg, mv_xpi, mv_xpl, mv_xpr, mv_xc, mv_xc2, mv_xs, mv_9z, mv_cqs, mv_calls, mv_lgz, mv_stz, mv_kz, mv_cz, mv_fvs, mv_ats, mv_ics, mv_rz, mv_tz, mv_cns, mv_nfs, mv_fins, mv_det, mv_cc, mv_c0, Nat.reduceAdd, Nat.reduceEqDiff, Nat.reduceLT, Nat.reduceLeDiff, Nat.reduceSub, reduceIte, decide_false, decide_true, Bool.false_eq_true, List.map_cons, List.map_nil, List.sum_cons, List.sum_nil, true_and, and_true, true_or, or_true, false_or, or_false, false_and, and_false, true_implies, false_implies, implies_true, not_true_eq_false, not_false_eq_true, lg_cmp_ge, lg_cmp_le, lg_cmp_gt, lg_cmp_lt, lg_cmp_eq, qX7_putIn, flX7s, cIX7s, cLX7s, csX7_putIn, sX7_putIn, ms_ail, k0, fillA_R, r11, mv_lenK k7, ea, eb, ca, cb, e, fillA_o, fillA_set]
        refine ⟨fun hy => ?_, fun hy => ?_⟩
        · have hy : nI 4 ≤ nI q := hy
          rw [nI_leI (by omega) (by omega)] at hy
          obtain rfl : q = 4 := by omega
          rw [nI_m1 (p + 1) (by omega), frS_4 _ _ _ (by omega) (by omega)]
          rw [pnF, if_pos hlt] at he
          exact ihp (by omega) he _
        · have hy : ¬ nI 4 ≤ nI q := hy
          rw [nI_leI (by omega) (by omega)] at hy
          have w := ihq (by omega) hlt
          have nx : (fun j => if j = 4 * (p + 1) + q then frS (h.2.1 (x0 + 7)) c (p + 1) q (4 * p + q) else frS (h.2.1 (x0 + 7)) c (p + 1) q j) = frS (h.2.1 (x0 + 7)) c (p + 1) (q + 1) := by
            rw [hfs.resolve_right (by omega)]
            funext j
            unfold frS
            by_cases z1 : j = 4 * (p + 1) + q
            · subst z1
              rw [if_pos rfl, if_pos (by omega), show 4 * (p + 1) + q - 4 = 4 * p + q by omega]
            · by_cases z2 : (4 * (p + 1) + 4 ≤ j ∧ j < 4 * c + 4) ∨ (4 * (p + 1) ≤ j ∧ j < 4 * (p + 1) + q)
              · rw [if_neg z1, if_pos z2, if_pos (by omega)]
              · rw [if_neg z1, if_neg z2, if_neg (by omega)]
          rw [nx, nI_1]
          exact ⟨vp_in_nI (by omega) (by omega), vp_in_nI (by omega) (by omega), w⟩
      refine mv_go hX 10 ?_
      simp only [mv_wps, mv_exq, mv_exr, mv_exn, mv_xg, mv_xpi, mv_xpl, mv_xpr, mv_xc, mv_xc2, mv_xs, mv_9z, mv_cqs, mv_calls, mv_lgz, mv_stz, mv_kz, mv_cz, mv_fvs, mv_ats, mv_ics, mv_rz, mv_tz, mv_cns, mv_nfs, mv_fins, mv_det, mv_cc, mv_c0, Nat.reduceAdd, Nat.reduceEqDiff, Nat.reduceLT, Nat.reduceLeDiff, Nat.reduceSub, reduceIte, decide_false, decide_true, Bool.false_eq_true, List.map_cons, List.map_nil, List.sum_cons, List.sum_nil, true_and, and_true, true_or, or_true, false_or, or_false, false_and, and_false, true_implies, false_implies, implies_true, not_true_eq_false, not_false_eq_true, lg_cmp_ge, lg_cmp_le, lg_cmp_gt, lg_cmp_lt, lg_cmp_eq, qX7_putIn, flX7s, cIX7s, cLX7s, csX7_putIn, sX7_putIn, ms_ail, k0, fillA_R, r12, mv_lenK k8, b7, hz, e, cp, hpf, v1]
      refine ⟨fun hy => ?_, fun hy => ?_⟩
      · rw [pnF, if_neg (Int64.not_lt.mpr hy)] at he
        subst he
        exact start (by omega) o
      · have w := inner 0 (by omega) (Int64.not_le.mp hy)
        have nx : upL (psF (h.2.1 (x0 + 8)) c (p + 1)) (p + 1) (h.2.1 (x0 + 8) p) = psF (h.2.1 (x0 + 8)) c p := by
          funext j
          unfold upL psF
          by_cases z1 : j = p + 1
          · subst z1
            rw [if_pos rfl, if_pos (by omega)]
            rfl
          · by_cases z2 : p + 1 < j ∧ j ≤ c
            · rw [if_neg z1, if_pos z2, if_pos (by omega)]
            · rw [if_neg z1, if_neg z2, if_neg (by omega)]
        refine mv_go hX 40 ?_
        simp only [mv_wps, mv_exq, mv_exr, mv_exn, mv_xg, mv_xpi, mv_xpl, mv_xpr, mv_xc, mv_xc2, mv_xs, mv_9z, mv_cqs, mv_calls, mv_lgz, mv_stz, mv_kz, mv_cz, mv_fvs, mv_ats, mv_ics, mv_rz, mv_tz, mv_cns, mv_nfs, mv_fins, mv_det, mv_cc, mv_c0, Nat.reduceAdd, Nat.reduceEqDiff, Nat.reduceLT, Nat.reduceLeDiff, Nat.reduceSub, reduceIte, decide_false, decide_true, Bool.false_eq_true, List.map_cons, List.map_nil, List.sum_cons, List.sum_nil, true_and, and_true, true_or, or_true, false_or, or_false, false_and, and_false, true_implies, false_implies, implies_true, not_true_eq_false, not_false_eq_true, lg_cmp_ge, lg_cmp_le, lg_cmp_gt, lg_cmp_lt, lg_cmp_eq, qX7_putIn, flX7s, cIX7s, cLX7s, csX7_putIn, sX7_putIn, ms_ail, k0, fillA_R, r12, mv_lenK k8, b7, e, cp, cp1, hpf, v1, v2, s8, nx]
        exact w
  refine mv_go hX 20 ?_
  simp only [mv_wps, mv_exq, mv_exr, mv_exn, mv_xg, mv_xpi, mv_xpl, mv_xpr, mv_xc, mv_xc2, mv_xs, mv_9z, mv_cqs, mv_calls, mv_lgz, mv_stz, mv_kz, mv_cz, mv_fvs, mv_ats, mv_ics, mv_rz, mv_tz, mv_cns, mv_nfs, mv_fins, mv_det, mv_cc, mv_c0, Nat.reduceAdd, Nat.reduceEqDiff, Nat.reduceLT, Nat.reduceLeDiff, Nat.reduceSub, reduceIte, decide_false, decide_true, Bool.false_eq_true, List.map_cons, List.map_nil, List.sum_cons, List.sum_nil, true_and, and_true, true_or, or_true, false_or, or_false, false_and, and_false, true_implies, false_implies, implies_true, not_true_eq_false, not_false_eq_true, lg_cmp_ge, lg_cmp_le, lg_cmp_gt, lg_cmp_lt, lg_cmp_eq, qX7_putIn, flX7s, cIX7s, cLX7s, csX7_putIn, sX7_putIn, ms_ail, k0, e2]
  have w := loop c (Nat.le_refl _) hPd.symm none
  have ea : psF (h.2.1 (x0 + 8)) c c = h.2.1 (x0 + 8) := by
    funext j
    exact if_neg (by omega)
  have eb : frS (h.2.1 (x0 + 7)) c c 0 = (fillA h (x0 + 8) (h.2.1 (x0 + 8))).2.1 (x0 + 7) := by
    rw [fillA_self]
    funext j
    exact if_neg (by omega)
  rw [ea, eb, fillA_self, fillA_self] at w
  exact w
