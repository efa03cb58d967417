noncomputable def csX2_count (kd : List (Nat × Nat)) : mv_CS := (mv_cc 59 1 1 (sX1_copy kd) (mv_cc 63 1 0 (sX1_lines kd) (mv_cc 67 1 2 (sX1_at kd) (mv_cc 71 0 1 (sX0_firstAbove kd) (mv_cc 77 0 0 (sX0_count kd) (mv_cc 80 0 2 (sX0_numberAt kd) (mv_cc 84 2 1 (sX2_choose kd) mv_c0)))))))
theorem oX2_count {l : Launch} {b : Nat} {ad : Nat → Nat} {D : va_G} {cA : Nat → ClassId} {kd : List (Nat × Nat)} (had : ∀ i, i < kd.length → ad i = b + i) : mv_Own l (mv_room 17) b ad D cA kd RX2 flX2 cIX2 cLX2 (csX2_count kd) := (mv_oV lRX2_59 zX1_copy rfl (by decide) (ctX1_copy had) ⟨by decide, by decide⟩ (mv_oV lRX2_63 zX1_lines rfl (by decide) (ctX1_lines had) ⟨by decide, by decide⟩ (mv_oV lRX2_67 zX1_at rfl (by decide) (ctX1_at had) ⟨by decide, by decide⟩ (mv_oV lRX2_71 zX0_firstAbove rfl (by decide) (ctX0_firstAbove had) ⟨by decide, by decide⟩ (mv_oV lRX2_77 zX0_count rfl (by decide) (ctX0_count had) ⟨by decide, by decide⟩ (mv_oV lRX2_80 zX0_numberAt rfl (by decide) (ctX0_numberAt had) ⟨by decide, by decide⟩ (mv_oV lRX2_84 zX2_choose rfl (by decide) (ctX2_choose had) ⟨by decide, by decide⟩ (mv_o0 flX2_ok cIX2_ok cLX2_ok))))))))
set_option maxRecDepth 100000 in
set_option maxHeartbeats 4000000 in
theorem ctX2_count {l : Launch} {b : Nat} {ad : Nat → Nat} {D : va_G} {cA : Nat → ClassId} {kd : List (Nat × Nat)} (had : ∀ i, i < kd.length → ad i = b + i) : mv_Ct l b ad D cA kd yX2_count cX2_count 7 (some .long) 17 (sX2_count kd) := by
  refine mv_introF (rk := 3) tX2_count (mv_pf plRX2) kX2_count had ⟨(fun e => by cases e), (fun e => by cases e), (fun e => by cases e), (fun _ => rfl), (fun e => by cases e)⟩ (oX2_count had) ?_
  intro h as hp
  obtain ⟨x0, x1, x2, x3, x4, rfl, hq⟩ := ms_aaaai_inv hp
  refine ⟨Nat.le_of_ble_eq_true rfl, fun X hX => ?_⟩
  show X 0 [some (.ref x0), some (.ref x1), some (.ref x2), some (.ref x3), some (.int x4), none, none] [] h
  obtain ⟨hu, hg, ho, hb, hd, hfirst⟩ := hq
  obtain ⟨⟨k1, k2, k3, k4, k5, k6, k7⟩, ⟨r1, r2, r3, r4, r5, r6, r7, r8⟩, g1, g2⟩ := id hu
  have hb4 : bw h x3 ≤ 4 ∧ bc h x3 ≤ 1000 := ⟨hb.2.2.2.2.2.2.2.2.1, hb.2.2.2.2.2.2.2.2.2.2⟩
  have hn4 : gn h x2 ≤ 4 := ho.2.2.2.2
  have nb5 : x3 ≠ x0 + 5 ∧ x3 ≠ x0 + 6 ∧ x3 ≠ x0 + 8 := ⟨mv_kne hb.1 k2 (by decide), mv_kne hb.1 k3 (by decide), mv_kne hb.1 k5 (by decide)⟩
  have no5 : x2 ≠ x0 + 5 ∧ x2 ≠ x0 + 6 ∧ x2 ≠ x0 + 8 := ⟨mv_kne ho.1 k2 (by decide), mv_kne ho.1 k3 (by decide), mv_kne ho.1 k5 (by decide)⟩
  have c1 : gOk kd (gCopy h (x0 + 1) x1) (x0 + 3) ∧ gOk kd (gCopy h (x0 + 1) x1) x2 ∧ (gCopy h (x0 + 1) x1).1 x2 0 = h.1 x2 0 := by
    have z1 : (gCopy h (x0 + 1) x1).1 x2 0 = h.1 x2 0 := by simp [gCopy, gFill, mv_si, Ne.symm hd.2.2.1]
    exact ⟨gOk.by (h := h) (by simp [gCopy, gFill, mv_si]) rfl g2, gOk.by (h := h) z1 rfl ho, z1⟩
  have c2 : (gCopy (gCopy h (x0 + 1) x1) (x0 + 3) x2).1 x2 0 = h.1 x2 0 ∧ gOk kd (gCopy (gCopy h (x0 + 1) x1) (x0 + 3) x2) x2 := by
    have z1 : (gCopy (gCopy h (x0 + 1) x1) (x0 + 3) x2).1 x2 0 = h.1 x2 0 := by
      rw [← c1.2.2]
      simp [gCopy, gFill, mv_si, Ne.symm hd.2.2.2]
    exact ⟨z1, gOk.by (h := h) z1 rfl ho⟩
  have hcr : ∀ (M : mv_M) g o, (gCopy M g o).2.2 = M.2.2 := fun _ _ _ => rfl
  obtain ⟨b1, b2, b3, b4, b5, b6, b7, b8, b9, b10, b11, b12, b13, b14⟩ := huB_ok (first := x4) hu hg ho hb hd
  have hBdef : mv_si (mv_si (mv_sl (mv_si (mv_si (gCopy (gCopy h (x0 + 1) x1) (x0 + 3) x2) x0 0 (h.1 x2 0)) x0 1 0) x0 2 0) x0 3 x4) x0 4 0 = huB h x0 x1 x2 x4 := rfl
  have hRr : (huB h x0 x1 x2 x4).2.2 = h.2.2 := rfl
  have hC0 : huC h x0 x1 x2 x3 x4 = fillI (fillI (fillI (huB h x0 x1 x2 x4) (x0 + 5) (huBg h x0 x2 x3 (gn h x2))) (x0 + 6) (huEn h x0 x2 x3 (gn h x2))) (x0 + 8) (huNb h x0 x3 (4 * bc h x3)) := rfl
  generalize hBe : huB h x0 x1 x2 x4 = B at *
  have key : ∀ M : mv_M, M.2 = B.2 → (∀ a, a ≠ x0 + 5 → a ≠ x0 + 6 → a ≠ x0 + 8 → M.1 a = B.1 a) → huOk kd M x0 ∧ gOk kd M x2 ∧ boOk kd M x3 ∧ (∀ i k, gAt M x2 i k = gAt h x2 i k) ∧ bw M x3 = bw h x3 ∧ bc M x3 = bc h x3 ∧ M.2.2 = h.2.2 ∧ M.1 x0 0 = h.1 x2 0 ∧ M.1 x0 3 = x4 := by
    intro M h1 h2
    have hr : M.2.2 = h.2.2 := by rw [h1]; exact hRr
    obtain ⟨z1, z2, z3⟩ := b3.by (h' := M) (h2 x3 nb5.1 nb5.2.1 nb5.2.2) (by rw [h1])
    refine ⟨⟨⟨k1, k2, k3, k4, k5, k6, k7⟩, by rw [hr]; exact ⟨r1, r2, r3, r4, r5, r6, r7, r8⟩, b1.2.2.1.by (by rw [h2 _ (by omega) (by omega) (by omega)]) (by rw [h1]), b1.2.2.2.by (by rw [h2 _ (by omega) (by omega) (by omega)]) (by rw [h1])⟩, b2.by (by rw [h2 _ no5.1 no5.2.1 no5.2.2]) (by rw [h1]), z1, fun i k => ?_, z2.trans b5, z3.trans b6, hr, ?_, ?_⟩
    · rw [← b4]
      exact gAt_same (by rw [h2 _ no5.1 no5.2.1 no5.2.2]) (by rw [h1]) i k
    · rw [h2 _ (by omega) (by omega) (by omega)]; exact b10
    · rw [h2 _ (by omega) (by omega) (by omega)]; exact b11
  have hF : ∀ f f', huOk kd (fillI (fillI B (x0 + 5) f) (x0 + 6) f') x0 ∧ gOk kd (fillI (fillI B (x0 + 5) f) (x0 + 6) f') x2 ∧ boOk kd (fillI (fillI B (x0 + 5) f) (x0 + 6) f') x3 ∧ (∀ i k, gAt (fillI (fillI B (x0 + 5) f) (x0 + 6) f') x2 i k = gAt h x2 i k) ∧ bw (fillI (fillI B (x0 + 5) f) (x0 + 6) f') x3 = bw h x3 ∧ bc (fillI (fillI B (x0 + 5) f) (x0 + 6) f') x3 = bc h x3 ∧ (fillI (fillI B (x0 + 5) f) (x0 + 6) f').2.2 = h.2.2 ∧ (fillI (fillI B (x0 + 5) f) (x0 + 6) f').1 x0 0 = h.1 x2 0 ∧ (fillI (fillI B (x0 + 5) f) (x0 + 6) f').1 x0 3 = x4 := fun f f' => key _ rfl (fun a z1 z2 z3 => by rw [fillI_ne z2, fillI_ne z1])
  have hG : ∀ f f' f'', huOk kd (fillI (fillI (fillI B (x0 + 5) f) (x0 + 6) f') (x0 + 8) f'') x0 ∧ gOk kd (fillI (fillI (fillI B (x0 + 5) f) (x0 + 6) f') (x0 + 8) f'') x2 ∧ boOk kd (fillI (fillI (fillI B (x0 + 5) f) (x0 + 6) f') (x0 + 8) f'') x3 ∧ (∀ i k, gAt (fillI (fillI (fillI B (x0 + 5) f) (x0 + 6) f') (x0 + 8) f'') x2 i k = gAt h x2 i k) ∧ bw (fillI (fillI (fillI B (x0 + 5) f) (x0 + 6) f') (x0 + 8) f'') x3 = bw h x3 ∧ bc (fillI (fillI (fillI B (x0 + 5) f) (x0 + 6) f') (x0 + 8) f'') x3 = bc h x3 ∧ (fillI (fillI (fillI B (x0 + 5) f) (x0 + 6) f') (x0 + 8) f'').2.2 = h.2.2 ∧ (fillI (fillI (fillI B (x0 + 5) f) (x0 + 6) f') (x0 + 8) f'').1 x0 0 = h.1 x2 0 ∧ (fillI (fillI (fillI B (x0 + 5) f) (x0 + 6) f') (x0 + 8) f'').1 x0 3 = x4 := fun f f' f'' => key _ rfl (fun a z1 z2 z3 => by rw [fillI_ne z3, fillI_ne z2, fillI_ne z1])
  have hGc : ∀ f f' f'', (fillI (fillI (fillI B (x0 + 5) f) (x0 + 6) f') (x0 + 8) f'').1 x3 1 = nI (bc h x3) := fun f f' f'' => by
    have z := (hG f f' f'').2.2.1.2.2.2.2.2.2.2.2.2.1
    rw [(hG f f' f'').2.2.2.2.2.1] at z
    exact z
  have hs5 : ∀ f f' i v, mv_si (fillI (fillI B (x0 + 5) f) (x0 + 6) f') (x0 + 5) i v = fillI (fillI B (x0 + 5) (fun j => if j = i then v else f j)) (x0 + 6) f' := fun f f' i v => by
    unfold mv_si fillI
    refine Prod.ext ?_ rfl
    funext a j
    by_cases ha : a = x0 + 6
    · subst ha; simp
    · by_cases hc : a = x0 + 5
      · subst hc; simp
      · simp [ha, hc]
  have e2 : h.1 x2 0 = nI (gn h x2) := ho.2.2.2.1
  have inner : ∀ r, r < bc h x3 → (∀ o, X 112 [some (.ref x0), some (.ref x1), some (.ref x2), some (.ref x3), some (.int x4), some (.int (nI (r + 1))), o] [] (fillI (fillI (fillI B (x0 + 5) (huBg h x0 x2 x3 (gn h x2))) (x0 + 6) (huEn h x0 x2 x3 (gn h x2))) (x0 + 8) (huNb h x0 x3 (4 * (r + 1))))) → ∀ k, k ≤ 4 → X 132 [some (.ref x0), some (.ref x1), some (.ref x2), some (.ref x3), some (.int x4), some (.int (nI r)), some (.int (nI k))] [] (fillI (fillI (fillI B (x0 + 5) (huBg h x0 x2 x3 (gn h x2))) (x0 + 6) (huEn h x0 x2 x3 (gn h x2))) (x0 + 8) (huNb h x0 x3 (4 * r + k))) := by
    intro r hr hout
    refine mv_up 4 ?_
    intro k hk ih
    obtain ⟨q1, q2, q3, q4, q5, q6, q7, q8, q9⟩ := hG (huBg h x0 x2 x3 (gn h x2)) (huEn h x0 x2 x3 (gn h x2)) (huNb h x0 x3 (4 * r + k))
    have ea : nI r * 4 + nI k = nI (r * 4 + k) := by rw [nI_c4, nI_mul, nI_add]
    refine mv_go hX 60 ?_
    simp only [mv_wps, mv_exq, mv_exr, mv_exn, mv_xg, mv_xpi, mv_xpl, mv_xpr, mv_xc, mv_xc2, mv_xs, mv_9z, mv_cqs, mv_calls, mv_lgz, mv_stz, mv_kz, mv_cz, mv_fvs, mv_ats, mv_ics, mv_rz, mv_tz, mv_cns, mv_nfs, mv_fins, mv_det, mv_cc, mv_c0, Nat.reduceAdd, Nat.reduceEqDiff, Nat.reduceLT, Nat.reduceLeDiff, Nat.reduceSub, reduceIte, decide_false, decide_true, Bool.false_eq_true, List.map_cons, List.map_nil, List.sum_cons, List.sum_nil, true_and, and_true, true_or, or_true, false_or, or_false, false_and, and_false, true_implies, false_implies, implies_true, not_true_eq_false, not_false_eq_true, lg_cmp_ge, lg_cmp_le, lg_cmp_gt, lg_cmp_lt, lg_cmp_eq, qX2_count, flX2s, cIX2s, cLX2s, csX2_count, sX2_count, sX1_copy, sX1_lines, sX1_at, sX0_firstAbove, sX0_count, sX0_numberAt, sX2_choose, ms_a, ms_aa, ms_aaaai, ms_ai, ms_aii, ms_al, k1, q7, r6, q3, hb.1, mv_lenK k5, ea]
    refine ⟨fun hc => ?_, fun hc => ?_⟩
    · have hc : nI 4 ≤ nI k := hc
      rw [nI_leI (by omega) (by omega)] at hc
      obtain rfl : k = 4 := by omega
      rw [nI_1]
      exact hout _
    · have hc : ¬ nI 4 ≤ nI k := hc
      rw [nI_leI (by omega) (by omega)] at hc
      have w := ih (by omega)
      rw [nI_1, fillI_set, nI_clamp (n := r * 4 + k) (by omega), nI_clamp (n := r) (by omega), nI_clamp (n := k) (by omega)]
      refine ⟨vp_in_nI (by omega) (by omega), ?_⟩
      have hv : (if bHas (fillI (fillI (fillI B (x0 + 5) (huBg h x0 x2 x3 (gn h x2))) (x0 + 6) (huEn h x0 x2 x3 (gn h x2))) (x0 + 8) (huNb h x0 x3 (4 * r + k))) x3 (nI r) (nI k) then (nbF ((fillI (fillI (fillI B (x0 + 5) (huBg h x0 x2 x3 (gn h x2))) (x0 + 6) (huEn h x0 x2 x3 (gn h x2))) (x0 + 8) (huNb h x0 x3 (4 * r + k))).2.1 (x3 + 2)) ((fillI (fillI (fillI B (x0 + 5) (huBg h x0 x2 x3 (gn h x2))) (x0 + 6) (huEn h x0 x2 x3 (gn h x2))) (x0 + 8) (huNb h x0 x3 (4 * r + k))).2.1 (x3 + 1)) (bw (fillI (fillI (fillI B (x0 + 5) (huBg h x0 x2 x3 (gn h x2))) (x0 + 6) (huEn h x0 x2 x3 (gn h x2))) (x0 + 8) (huNb h x0 x3 (4 * r + k))) x3) k ((fillI (fillI (fillI B (x0 + 5) (huBg h x0 x2 x3 (gn h x2))) (x0 + 6) (huEn h x0 x2 x3 (gn h x2))) (x0 + 8) (huNb h x0 x3 (4 * r + k))).2.1 (x3 + 3) r)).toInt32 else 0) = boN h x3 r k := by
        have hbh := bHas_nI (h := fillI (fillI (fillI B (x0 + 5) (huBg h x0 x2 x3 (gn h x2))) (x0 + 6) (huEn h x0 x2 x3 (gn h x2))) (x0 + 8) (huNb h x0 x3 (4 * r + k))) (b := x3) (r := r) (k := k) (by rw [q6]; omega) (by rw [q5]; omega) (by omega) (by omega)
        rw [q5, q6] at hbh
        unfold boN
        by_cases z : r < bc h x3 ∧ k < bw h x3
        · rw [if_pos (hbh.mpr z), if_pos z, q5]
          rw [show (fillI (fillI (fillI B (x0 + 5) (huBg h x0 x2 x3 (gn h x2))) (x0 + 6) (huEn h x0 x2 x3 (gn h x2))) (x0 + 8) (huNb h x0 x3 (4 * r + k))).2.1 = B.2.1 from rfl, b7, b8, b9]
        · rw [if_neg (fun y => z (hbh.mp y)), if_neg z]
      rw [hv]
      have e : (fun j => if j = r * 4 + k then boN h x3 r k else huNb h x0 x3 (4 * r + k) j) = huNb h x0 x3 (4 * r + (k + 1)) := by
        funext j
        unfold huNb
        by_cases z1 : j = r * 4 + k
        · subst z1
          rw [if_pos rfl, if_pos (by omega), show (r * 4 + k) / 4 = r by omega, show (r * 4 + k) % 4 = k by omega]
        · by_cases z2 : j < 4 * r + k
          · rw [if_neg z1, if_pos z2, if_pos (by omega)]
          · rw [if_neg z1, if_neg z2, if_neg (by omega)]
      rw [e]
      exact w
  have second : ∀ r, r ≤ bc h x3 → ∀ o, X 112 [some (.ref x0), some (.ref x1), some (.ref x2), some (.ref x3), some (.int x4), some (.int (nI r)), o] [] (fillI (fillI (fillI B (x0 + 5) (huBg h x0 x2 x3 (gn h x2))) (x0 + 6) (huEn h x0 x2 x3 (gn h x2))) (x0 + 8) (huNb h x0 x3 (4 * r))) := by
    refine mv_up (bc h x3) ?_
    intro r hr ih o
    obtain ⟨q1, q2, q3, q4, q5, q6, q7, q8, q9⟩ := hG (huBg h x0 x2 x3 (gn h x2)) (huEn h x0 x2 x3 (gn h x2)) (huNb h x0 x3 (4 * r))
    have hc0 := hGc (huBg h x0 x2 x3 (gn h x2)) (huEn h x0 x2 x3 (gn h x2)) (huNb h x0 x3 (4 * r))
    have hgo : r = bc h x3 → X 170 [some (.ref x0), some (.ref x1), some (.ref x2), some (.ref x3), some (.int x4), some (.int (nI r)), o] [] (fillI (fillI (fillI B (x0 + 5) (huBg h x0 x2 x3 (gn h x2))) (x0 + 6) (huEn h x0 x2 x3 (gn h x2))) (x0 + 8) (huNb h x0 x3 (4 * r))) := by
      intro hre
      subst hre
      rw [← hC0] at q1 q8 q9 ⊢
      have hP : huP kd (huC h x0 x1 x2 x3 x4) x0 := by
        refine ⟨q1, by rw [q8, e2]; exact isN.nI (by omega) (by omega), fun i hi => ?_, by rw [q9]; exact hfirst⟩
        rw [q8, e2, nI_clamp (by omega)] at hi
        have w5 : (huC h x0 x1 x2 x3 x4).1 (x0 + 5) i = huFa h x3 (gAt h x2 (nI i) (nI i) - 1) := by
          rw [hC0, fillI_ne (by omega), fillI_ne (by omega), fillI_o, huBg, if_pos hi]
        have w6 : (huC h x0 x1 x2 x3 x4).1 (x0 + 6) i = huFa h x3 (gAt h x2 (nI i) (nI i)) := by
          rw [hC0, fillI_ne (by omega), fillI_o, huEn, if_pos hi]
        have hfa : ∀ z, isN (huFa h x3 z) 1001 := fun z => isN.nI (by have := faF_le (s := fun j => szOf (h.2.1 (x3 + 3) j)) (z := z) (c := bc h x3) 32 0 (bc h x3) (by omega) (Nat.le_refl _); omega) (by omega)
        rw [w5, w6]
        exact ⟨hfa _, hfa _⟩
      have hN : isN 0 5 ∧ 4 ≤ Int32.toNatClampNeg 0 + 4 := ⟨⟨by decide, by decide⟩, by decide⟩
      have hz : Int32.toNatClampNeg 0 = 0 := by decide
      refine mv_go hX 60 ?_
      have kF := (chF_chK x0 4 0 (huC h x0 x1 x2 x3 x4))
      simp only [mv_wps, mv_exq, mv_exr, mv_exn, mv_xg, mv_xpi, mv_xpl, mv_xpr, mv_xc, mv_xc2, mv_xs, mv_9z, mv_cqs, mv_calls, mv_lgz, mv_stz, mv_kz, mv_cz, mv_fvs, mv_ats, mv_ics, mv_rz, mv_tz, mv_cns, mv_nfs, mv_fins, mv_det, mv_cc, mv_c0, Nat.reduceAdd, Nat.reduceEqDiff, Nat.reduceLT, Nat.reduceLeDiff, Nat.reduceSub, reduceIte, decide_false, decide_true, Bool.false_eq_true, List.map_cons, List.map_nil, List.sum_cons, List.sum_nil, true_and, and_true, true_or, or_true, false_or, or_false, false_and, and_false, true_implies, false_implies, implies_true, not_true_eq_false, not_false_eq_true, lg_cmp_ge, lg_cmp_le, lg_cmp_gt, lg_cmp_lt, lg_cmp_eq, qX2_count, flX2s, cIX2s, cLX2s, csX2_count, sX2_count, sX1_copy, sX1_lines, sX1_at, sX0_firstAbove, sX0_count, sX0_numberAt, sX2_choose, ms_a, ms_aa, ms_aaaai, ms_ai, ms_aii, ms_al, sX2_chooseD, sX2_choose, k1, hP, hN.1, hN.2, hz]
      refine ⟨fun hs => ?_, fun hs => ?_⟩
      · rw [show huR h x0 x1 x2 x3 x4 = (chF x0 4 0 (huC h x0 x1 x2 x3 x4)).2 from rfl, if_pos hs]
        exact ⟨rfl, rfl⟩
      · rw [show huR h x0 x1 x2 x3 x4 = (chF x0 4 0 (huC h x0 x1 x2 x3 x4)).2 from rfl, if_neg hs]
        exact ⟨rfl, rfl⟩
    refine mv_go hX 3 ?_
    simp only [mv_wps, mv_exq, mv_exr, mv_exn, mv_xg, mv_xpi, mv_xpl, mv_xpr, mv_xc, mv_xc2, mv_xs, mv_9z, mv_cqs, mv_calls, mv_lgz, mv_stz, mv_kz, mv_cz, mv_fvs, mv_ats, mv_ics, mv_rz, mv_tz, mv_cns, mv_nfs, mv_fins, mv_det, mv_cc, mv_c0, Nat.reduceAdd, Nat.reduceEqDiff, Nat.reduceLT, Nat.reduceLeDiff, Nat.reduceSub, reduceIte, decide_false, decide_true, Bool.false_eq_true, List.map_cons, List.map_nil, List.sum_cons, List.sum_nil, true_and, and_true, true_or, or_true, false_or, or_false, false_and, and_false, true_implies, false_implies, implies_true, not_true_eq_false, not_false_eq_true, lg_cmp_ge, lg_cmp_le, lg_cmp_gt, lg_cmp_lt, lg_cmp_eq, qX2_count, flX2s, cIX2s, cLX2s, csX2_count, sX2_count, sX1_copy, sX1_lines, sX1_at, sX0_firstAbove, sX0_count, sX0_numberAt, sX2_choose, ms_a, ms_aa, ms_aaaai, ms_ai, ms_aii, ms_al, q3, hb.1, hc0]
    refine ⟨fun hc => ?_, fun hc => ?_⟩
    · rw [nI_leI (by omega) (by omega)] at hc
      exact hgo (by omega)
    · rw [nI_leI (by omega) (by omega)] at hc
      have w := inner r (by omega) (ih (by omega)) 0 (by omega)
      refine mv_go hX 4 ?_
      simp only [mv_wps, mv_exq, mv_exr, mv_exn, mv_xg, mv_xpi, mv_xpl, mv_xpr, mv_xc, mv_xc2, mv_xs, mv_9z, mv_cqs, mv_calls, mv_lgz, mv_stz, mv_kz, mv_cz, mv_fvs, mv_ats, mv_ics, mv_rz, mv_tz, mv_cns, mv_nfs, mv_fins, mv_det, mv_cc, mv_c0, Nat.reduceAdd, Nat.reduceEqDiff, Nat.reduceLT, Nat.reduceLeDiff, Nat.reduceSub, reduceIte, decide_false, decide_true, Bool.false_eq_true, List.map_cons, List.map_nil, List.sum_cons, List.sum_nil, true_and, and_true, true_or, or_true, false_or, or_false, false_and, and_false, true_implies, false_implies, implies_true, not_true_eq_false, not_false_eq_true, lg_cmp_ge, lg_cmp_le, lg_cmp_gt, lg_cmp_lt, lg_cmp_eq, qX2_count, flX2s, cIX2s, cLX2s, csX2_count, sX2_count, sX1_copy, sX1_lines, sX1_at, sX0_firstAbove, sX0_count, sX0_numberAt, sX2_choose, ms_a, ms_aa, ms_aaaai, ms_ai, ms_aii, ms_al]
      refine ⟨fun hd => ?_, fun hd => w⟩
      have hd : nI 1000 ≤ nI r := hd
      rw [nI_leI (by omega) (by omega)] at hd
      omega
  have first : ∀ i, i ≤ gn h x2 → ∀ o, X 48 [some (.ref x0), some (.ref x1), some (.ref x2), some (.ref x3), some (.int x4), some (.int (nI i)), o] [] (fillI (fillI B (x0 + 5) (huBg h x0 x2 x3 i)) (x0 + 6) (huEn h x0 x2 x3 i)) := by
    refine mv_up (gn h x2) ?_
    intro i hi ih o
    refine mv_go hX 60 ?_
    have hb3 : ∀ f f', (fillI (fillI B (x0 + 5) f) (x0 + 6) f').2.1 (x3 + 3) = h.2.1 (x3 + 3) := fun f f' => b9
    have hF1 : ∀ f f', (fillI (fillI B (x0 + 5) f) (x0 + 6) f').2.2 = h.2.2 ∧ (fillI (fillI B (x0 + 5) f) (x0 + 6) f').1 x0 0 = h.1 x2 0 := fun f f' => ⟨(hF f f').2.2.2.2.2.2.1, (hF f f').2.2.2.2.2.2.2.1⟩
    have hF2 : ∀ f f', gOk kd (fillI (fillI B (x0 + 5) f) (x0 + 6) f') x2 ∧ boOk kd (fillI (fillI B (x0 + 5) f) (x0 + 6) f') x3 ∧ bc (fillI (fillI B (x0 + 5) f) (x0 + 6) f') x3 = bc h x3 ∧ (∀ i k, gAt (fillI (fillI B (x0 + 5) f) (x0 + 6) f') x2 i k = gAt h x2 i k) := fun f f' => ⟨(hF f f').2.1, (hF f f').2.2.1, (hF f f').2.2.2.2.2.1, (hF f f').2.2.2.1⟩
    simp only [mv_wps, mv_exq, mv_exr, mv_exn, mv_xg, mv_xpi, mv_xpl, mv_xpr, mv_xc, mv_xc2, mv_xs, mv_9z, mv_cqs, mv_calls, mv_lgz, mv_stz, mv_kz, mv_cz, mv_fvs, mv_ats, mv_ics, mv_rz, mv_tz, mv_cns, mv_nfs, mv_fins, mv_det, mv_cc, mv_c0, Nat.reduceAdd, Nat.reduceEqDiff, Nat.reduceLT, Nat.reduceLeDiff, Nat.reduceSub, reduceIte, decide_false, decide_true, Bool.false_eq_true, List.map_cons, List.map_nil, List.sum_cons, List.sum_nil, true_and, and_true, true_or, or_true, false_or, or_false, false_and, and_false, true_implies, false_implies, implies_true, not_true_eq_false, not_false_eq_true, lg_cmp_ge, lg_cmp_le, lg_cmp_gt, lg_cmp_lt, lg_cmp_eq, qX2_count, flX2s, cIX2s, cLX2s, csX2_count, sX2_count, sX1_copy, sX1_lines, sX1_at, sX0_firstAbove, sX0_count, sX0_numberAt, sX2_choose, ms_a, ms_aa, ms_aaaai, ms_ai, ms_aii, ms_al, k1, hF1, hF2, hb3, hs5, fillI_set, r3, r4, ho.1, hb.1, mv_lenK k2, mv_lenK k3, e2]
    refine ⟨fun hc => ?_, fun hc => ⟨fun hd => ?_, fun hd => ?_⟩⟩
    · rw [nI_leI (by omega) (by omega)] at hc
      obtain rfl : i = gn h x2 := by omega
      have w := second 0 (by omega) o
      have e : huNb h x0 x3 (4 * 0) = (fillI (fillI B (x0 + 5) (huBg h x0 x2 x3 (gn h x2))) (x0 + 6) (huEn h x0 x2 x3 (gn h x2))).1 (x0 + 8) := by
        rw [fillI_ne (by omega), fillI_ne (by omega), b14]
        funext j
        exact if_neg (by omega)
      rw [e, fillI_self] at w
      exact w
    · have hd : nI 4 ≤ nI i := hd
      rw [nI_leI (by omega) (by omega)] at hd hc
      omega
    · rw [nI_leI (by omega) (by omega)] at hc
      have w := ih (by omega)
      rw [nI_1, nI_clamp (n := i) (by omega)]
      have ea : (fun j => if j = i then nI (faF (fun j => szOf (h.2.1 (x3 + 3) j)) (gAt h x2 (nI i) (nI i) - 1) 32 0 (bc h x3)) else huBg h x0 x2 x3 i j) = huBg h x0 x2 x3 (i + 1) := by
        funext j
        unfold huBg
        by_cases z1 : j = i
        · subst z1
          rw [if_pos rfl, if_pos (by omega)]
          rfl
        · by_cases z2 : j < i
          · rw [if_neg z1, if_pos z2, if_pos (by omega)]
          · rw [if_neg z1, if_neg z2, if_neg (by omega)]
      have eb : (fun j => if j = i then nI (faF (fun j => szOf (h.2.1 (x3 + 3) j)) (gAt h x2 (nI i) (nI i)) 32 0 (bc h x3)) else huEn h x0 x2 x3 i j) = huEn h x0 x2 x3 (i + 1) := by
        funext j
        unfold huEn
        by_cases z1 : j = i
        · subst z1
          rw [if_pos rfl, if_pos (by omega)]
          rfl
        · by_cases z2 : j < i
          · rw [if_neg z1, if_pos z2, if_pos (by omega)]
          · rw [if_neg z1, if_neg z2, if_neg (by omega)]
      rw [ea, eb]
      exact ⟨vp_in_nI (by omega) (by omega), vp_in_nI (by omega) (by omega), w _⟩
  refine mv_go hX 60 ?_
  simp only [mv_wps, mv_exq, mv_exr, mv_exn, mv_xg, mv_xpi, mv_xpl, mv_xpr, mv_xc, mv_xc2, mv_xs, mv_9z, mv_cqs, mv_calls, mv_lgz, mv_stz, mv_kz, mv_cz, mv_fvs, mv_ats, mv_ics, mv_rz, mv_tz, mv_cns, mv_nfs, mv_fins, mv_det, mv_cc, mv_c0, Nat.reduceAdd, Nat.reduceEqDiff, Nat.reduceLT, Nat.reduceLeDiff, Nat.reduceSub, reduceIte, decide_false, decide_true, Bool.false_eq_true, List.map_cons, List.map_nil, List.sum_cons, List.sum_nil, true_and, and_true, true_or, or_true, false_or, or_false, false_and, and_false, true_implies, false_implies, implies_true, not_true_eq_false, not_false_eq_true, lg_cmp_ge, lg_cmp_le, lg_cmp_gt, lg_cmp_lt, lg_cmp_eq, qX2_count, flX2s, cIX2s, cLX2s, csX2_count, sX2_count, sX1_copy, sX1_lines, sX1_at, sX0_firstAbove, sX0_count, sX0_numberAt, sX2_choose, ms_a, ms_aa, ms_aaaai, ms_ai, ms_aii, ms_al, k1, r1, r2, hcr, g1, g1.1, g2.1, hg, c1, c2, ho.1, hBdef, hBe]
  have w := first 0 (by omega) none
  have ea : huBg h x0 x2 x3 0 = B.1 (x0 + 5) := by rw [b12]; rfl
  have eb : huEn h x0 x2 x3 0 = (fillI B (x0 + 5) (huBg h x0 x2 x3 0)).1 (x0 + 6) := by rw [fillI_ne (by omega), b13]; rfl
  rw [eb, fillI_self, ea, fillI_self] at w
  exact ⟨hd.1, hd.2.2.2, hfirst, w⟩
