/-! The reference: take. -/
def shF (h : mv_M) (m : Nat) : Nat → Nat → Int64 := aT h (m + 3) 0
def tkP (h : mv_M) (m : Nat) (v : Option Value) (h' : mv_M) : Prop :=
  (moC h m = 20 ∧ v = some (.int (-1)) ∧ h' = h) ∨ (moC h m < 20 ∧ (
    (∃ i, i < moL h m ∧ (∃ k, k < moL h m ∧ ¬ shF h m i k = shF h m k i) ∧ (∀ j k, j < i → k < moL h m → shF h m j k = shF h m k j) ∧ v = some (.int (-10 - nI i)) ∧ h' = h) ∨
    ((∀ j k, j < moL h m → k < moL h m → shF h m j k = shF h m k j) ∧ ∃ g, (
      (∃ k, (1 ≤ k ∧ k ≤ moL h m) ∧ ¬ 0 < dtV (shF h m) k k ∧ (∀ j, 1 ≤ j → j < k → 0 < dtV (shF h m) j j) ∧ v = some (.int (-20 - nI k)) ∧ h' = fillA h (m + 9) g) ∨
      ((∀ j, 1 ≤ j → j ≤ moL h m → 0 < dtV (shF h m) j j) ∧ cmP (aW (fillA h (m + 9) g) (m + 10) (shF h m)) m (moL h m) v h')))))
def sX7_take (kd : List (Nat × Nat)) : mv_S := ms_a (fun m h => moI kd h m) (fun m h v h' => tkP h m v h')
noncomputable def csX7_take (kd : List (Nat × Nat)) : mv_CS := (mv_cc 89 7 3 (sX7_determinant kd) (mv_cc 100 7 1 (sX7_comes kd) mv_c0))
theorem oX7_take {l : Launch} {b : Nat} {ad : Nat → Nat} {D : va_G} {cA : Nat → ClassId} {kd : List (Nat × Nat)} (had : ∀ i, i < kd.length → ad i = b + i) : mv_Own l (mv_room 2) b ad D cA kd RX7 flX7 cIX7 cLX7 (csX7_take kd) := (mv_oV lRX7_89 zX7_determinant rfl (by decide) (ctX7_determinant had) ⟨by decide, by decide⟩ (mv_oV lRX7_100 zX7_comes rfl (by decide) (ctX7_comes had) ⟨by decide, by decide⟩ (mv_o0 flX7_ok cIX7_ok cLX7_ok)))
set_option maxRecDepth 100000 in
set_option maxHeartbeats 4000000 in
theorem ctX7_take {l : Launch} {b : Nat} {ad : Nat → Nat} {D : va_G} {cA : Nat → ClassId} {kd : List (Nat × Nat)} (had : ∀ i, i < kd.length → ad i = b + i) : mv_Ct l b ad D cA kd yX7_take cX7_take 3 (some .int) 2 (sX7_take kd) := by
  refine mv_introF (rk := 1) tX7_take (mv_pf plRX7) kX7_take had ⟨(fun e => by cases e), (fun _ => rfl), (fun e => by cases e), (fun e => by cases e), (fun e => by cases e)⟩ (oX7_take had) ?_
  intro h as hp
  obtain ⟨x0, rfl, hq⟩ := ms_a_inv hp
  refine ⟨Nat.le_of_ble_eq_true rfl, fun X hX => ?_⟩
  show X 0 [some (.ref x0), none, none] [] h
  obtain ⟨hm, hN, ⟨hL0, -⟩, -⟩ := hq
  obtain ⟨⟨k0, k1, k2, k3, k4, k5, k6, k7, k8, k9, k10, k11, k12, k13, k14, k15, k16, k17, k18, k19, k20⟩, ⟨r0, r1, r4, r5, r6, r9, r11, r12, r14, r15, r16, r17, r18, r19, r20, r21, r22, r23, r24, r25⟩⟩ := id hm
  have hC : moC h x0 < 21 := hN.1.2
  have hC2 : h.1 x0 2 = nI (moC h x0) := hN.1.1
  have h20 : (nI (moC h x0) = 20) = (moC h x0 = 20) := propext ⟨fun z => nI_inj (b := 20) (by omega) (by omega) z, fun z => by rw [z]; decide⟩
  have hL2 : h.1 x0 3 = nI (moL h x0) := hL0.1
  have hL5 : moL h x0 < 5 := hL0.2
  have hP : ∀ v h', tkP h x0 v h' = tkP h x0 v h' := fun _ _ => rfl
  by_cases hc20 : moC h x0 = 20
  · refine mv_go hX 20 ?_
    simp only [mv_wps, mv_exq, mv_exr, mv_exn, mv_xg, mv_xpi, mv_xpl, mv_xpr, mv_xc, mv_xc2, mv_xs, mv_9z, mv_cqs, mv_calls, mv_lgz, mv_stz, mv_kz, mv_cz, mv_fvs, mv_ats, mv_ics, mv_rz, mv_tz, mv_cns, mv_nfs, mv_fins, mv_det, mv_cc, mv_c0, Nat.reduceAdd, Nat.reduceEqDiff, Nat.reduceLT, Nat.reduceLeDiff, Nat.reduceSub, reduceIte, decide_false, decide_true, Bool.false_eq_true, List.map_cons, List.map_nil, List.sum_cons, List.sum_nil, true_and, and_true, true_or, or_true, false_or, or_false, false_and, and_false, true_implies, false_implies, implies_true, not_true_eq_false, not_false_eq_true, lg_cmp_ge, lg_cmp_le, lg_cmp_gt, lg_cmp_lt, lg_cmp_eq, qX7_take, flX7s, cIX7s, cLX7s, csX7_take, sX7_take, sX7_determinant, sX7_comes, ms_a, ms_aaii, ms_ai, k0, hC2, h20, hc20]
    exact ⟨fun z => absurd (by decide) z, fun _ => Or.inl ⟨hc20, rfl, rfl⟩⟩
  · have hSd : ∀ r c, h.2.1 (x0 + 3) (4 * r + c) = shF h x0 r c := fun r c => by unfold shF aT; rw [Nat.zero_add]
    have cop : (∀ j k, j < moL h x0 → k < moL h x0 → shF h x0 j k = shF h x0 k j) → (∀ j, 1 ≤ j → j ≤ moL h x0 → 0 < dtV (shF h x0) j j) → ∀ g k, k ≤ 16 → ∀ o, X 110 [some (.ref x0), some (.int (nI k)), o] [] (fillA (fillA h (x0 + 9) g) (x0 + 10) (mdG (shF h x0) (h.2.1 (x0 + 10)) k)) := by
      intro hsym hpos g
      refine mv_up 16 ?_
      intro k hk ih o
      have b3 : ∀ f, (fillA (fillA h (x0 + 9) g) (x0 + 10) f).2.1 (x0 + 3) = h.2.1 (x0 + 3) := fun f => by rw [fillA_ne (by omega), fillA_ne (by omega)]
      by_cases hk16 : k < 16
      · have hlt : ¬ nI 16 ≤ nI k := by rw [nI_leI (by omega) (by omega)]; omega
        have hlt' : ¬ (16 : Int32) ≤ nI k := hlt
        have ck : (nI k).toNatClampNeg = k := nI_clamp (by omega)
        have vk : vp_in (nI k) 16 := vp_in_nI (by omega) (by omega)
        have w := ih hk16
        refine mv_go hX 60 ?_
        simp only [mv_wps, mv_exq, mv_exr, mv_exn, mv_xg, mv_xpi, mv_xpl, mv_xpr, mv_xc, mv_xc2, mv_xs, mv_9z, mv_cqs, mv_calls, mv_lgz, mv_stz, mv_kz, mv_cz, mv_fvs, mv_ats, mv_ics, mv_rz, mv_tz, mv_cns, mv_nfs, mv_fins, mv_det, mv_cc, mv_c0, Nat.reduceAdd, Nat.reduceEqDiff, Nat.reduceLT, Nat.reduceLeDiff, Nat.reduceSub, reduceIte, decide_false, decide_true, Bool.false_eq_true, List.map_cons, List.map_nil, List.sum_cons, List.sum_nil, true_and, and_true, true_or, or_true, false_or, or_false, false_and, and_false, true_implies, false_implies, implies_true, not_true_eq_false, not_false_eq_true, lg_cmp_ge, lg_cmp_le, lg_cmp_gt, lg_cmp_lt, lg_cmp_eq, qX7_take, flX7s, cIX7s, cLX7s, csX7_take, sX7_take, sX7_determinant, sX7_comes, ms_a, ms_aaii, ms_ai, k0, fillA_R, r15, r4, mv_lenK k10, mv_lenK k3, hlt', ck, vk, b3, fillA_set]
        rw [nI_1, mdG_s _ _ _ _ (by rw [← hSd, show 4 * (k / 4) + k % 4 = k by omega])]
        exact w _
      · have hle : nI 16 ≤ nI k := by rw [nI_leI (by omega) (by omega)]; omega
        have hle' : (16 : Int32) ≤ nI k := hle
        obtain rfl : k = 16 := by omega
        have nn : isN (nI (moL h x0)) 5 := isN.nI (by omega) (by omega)
        have cn : (nI (moL h x0)).toNatClampNeg = moL h x0 := nI_clamp (by omega)
        have n2 : isN (nI (moC h x0)) 20 := isN.nI (by omega) (by omega)
        have i2 : ∀ g f, (fillA (fillA h (x0 + 9) g) (x0 + 10) f).1 x0 2 = nI (moC h x0) := fun g f => hC2
        have i3 : ∀ g f, (fillA (fillA h (x0 + 9) g) (x0 + 10) f).1 x0 3 = nI (moL h x0) := fun g f => hL2
        have hmd : ∀ g f, moOk kd (fillA (fillA h (x0 + 9) g) (x0 + 10) f) x0 := fun g f => hm.same rfl
        have eW : fillA (fillA h (x0 + 9) g) (x0 + 10) (mdG (shF h x0) (h.2.1 (x0 + 10)) 16) = aW (fillA h (x0 + 9) g) (x0 + 10) (shF h x0) := by
          unfold aW
          rw [fillA_ne (show x0 + 10 ≠ x0 + 9 by omega)]
          rfl
        refine mv_go hX 60 ?_
        simp only [mv_wps, mv_exq, mv_exr, mv_exn, mv_xg, mv_xpi, mv_xpl, mv_xpr, mv_xc, mv_xc2, mv_xs, mv_9z, mv_cqs, mv_calls, mv_lgz, mv_stz, mv_kz, mv_cz, mv_fvs, mv_ats, mv_ics, mv_rz, mv_tz, mv_cns, mv_nfs, mv_fins, mv_det, mv_cc, mv_c0, Nat.reduceAdd, Nat.reduceEqDiff, Nat.reduceLT, Nat.reduceLeDiff, Nat.reduceSub, reduceIte, decide_false, decide_true, Bool.false_eq_true, List.map_cons, List.map_nil, List.sum_cons, List.sum_nil, true_and, and_true, true_or, or_true, false_or, or_false, false_and, and_false, true_implies, false_implies, implies_true, not_true_eq_false, not_false_eq_true, lg_cmp_ge, lg_cmp_le, lg_cmp_gt, lg_cmp_lt, lg_cmp_eq, qX7_take, flX7s, cIX7s, cLX7s, csX7_take, sX7_take, sX7_determinant, sX7_comes, ms_a, ms_aaii, ms_ai, k0, hle', hmd, nn, cn, i2, i3, n2]
        intro v h' hp'
        have hp2 : cmP (fillA (fillA h (x0 + 9) g) (x0 + 10) (mdG (shF h x0) (h.2.1 (x0 + 10)) 16)) x0 (moL h x0) v h' := hp'
        obtain ⟨xv, rfl⟩ := cmP_v hp2
        rw [eW] at hp2
        simp only [mv_wps, mv_exq, mv_exr, mv_exn, mv_xg, mv_xpi, mv_xpl, mv_xpr, mv_xc, mv_xc2, mv_xs, mv_9z, mv_cqs, mv_calls, mv_lgz, mv_stz, mv_kz, mv_cz, mv_fvs, mv_ats, mv_ics, mv_rz, mv_tz, mv_cns, mv_nfs, mv_fins, mv_det, mv_cc, mv_c0, Nat.reduceAdd, Nat.reduceEqDiff, Nat.reduceLT, Nat.reduceLeDiff, Nat.reduceSub, reduceIte, decide_false, decide_true, Bool.false_eq_true, List.map_cons, List.map_nil, List.sum_cons, List.sum_nil, true_and, and_true, true_or, or_true, false_or, or_false, false_and, and_false, true_implies, false_implies, implies_true, not_true_eq_false, not_false_eq_true, lg_cmp_ge, lg_cmp_le, lg_cmp_gt, lg_cmp_lt, lg_cmp_eq, qX7_take, flX7s, cIX7s, cLX7s, csX7_take, sX7_take, sX7_determinant, sX7_comes, ms_a, ms_aaii, ms_ai]
        exact Or.inr ⟨by omega, Or.inr ⟨hsym, g, Or.inr ⟨hpos, hp2⟩⟩⟩
    have dets : (∀ j k, j < moL h x0 → k < moL h x0 → shF h x0 j k = shF h x0 k j) → ∀ k, k ≤ moL h x0 → (∀ j, 1 ≤ j → j < k + 1 → 0 < dtV (shF h x0) j j) → ∀ g o, X 74 [some (.ref x0), some (.int (nI (k + 1))), o] [] (fillA h (x0 + 9) g) := by
      intro hsym
      refine mv_up (moL h x0) ?_
      intro k hk ih hall g o
      have i3 : ∀ g, (fillA h (x0 + 9) g).1 x0 3 = nI (moL h x0) := fun g => hL2
      have hmd : ∀ g, moOk kd (fillA h (x0 + 9) g) x0 := fun g => hm.same rfl
      by_cases hkn : k < moL h x0
      · have hle : ¬ nI (moL h x0) < nI (k + 1) := by rw [nI_ltI (by omega) (by omega)]; omega
        have haok : aOk kd x0 (x0 + 3) 0 := ⟨16, k3, by omega, by omega, by omega⟩
        have n0 : isN 0 400 := ⟨by decide, by decide⟩
        have c0 : Int32.toNatClampNeg 0 = 0 := by decide
        have nk : isN (nI (k + 1)) 5 := isN.nI (by omega) (by omega)
        have ck : (nI (k + 1)).toNatClampNeg = k + 1 := nI_clamp (by omega)
        have hD : ∀ g, moD (fillA h (x0 + 9) g) (x0 + 3) 0 (k + 1) = dtV (shF h x0) (k + 1) (k + 1) := fun g => by
          unfold moD shF aT
          rw [fillA_ne (show x0 + 3 ≠ x0 + 9 by omega)]
        have hDS : ∀ g, moDS (fillA h (x0 + 9) g) x0 (x0 + 3) 0 (k + 1) = fillA h (x0 + 9) (dtS (aT (fillA h (x0 + 9) g) (x0 + 3) 0) (k + 1) ((fillA h (x0 + 9) g).2.1 (x0 + 9)) (k + 1)) := fun g => by
          unfold moDS
          rw [fillA_two]
        refine mv_go hX 60 ?_
        simp only [mv_wps, mv_exq, mv_exr, mv_exn, mv_xg, mv_xpi, mv_xpl, mv_xpr, mv_xc, mv_xc2, mv_xs, mv_9z, mv_cqs, mv_calls, mv_lgz, mv_stz, mv_kz, mv_cz, mv_fvs, mv_ats, mv_ics, mv_rz, mv_tz, mv_cns, mv_nfs, mv_fins, mv_det, mv_cc, mv_c0, Nat.reduceAdd, Nat.reduceEqDiff, Nat.reduceLT, Nat.reduceLeDiff, Nat.reduceSub, reduceIte, decide_false, decide_true, Bool.false_eq_true, List.map_cons, List.map_nil, List.sum_cons, List.sum_nil, true_and, and_true, true_or, or_true, false_or, or_false, false_and, and_false, true_implies, false_implies, implies_true, not_true_eq_false, not_false_eq_true, lg_cmp_ge, lg_cmp_le, lg_cmp_gt, lg_cmp_lt, lg_cmp_eq, qX7_take, flX7s, cIX7s, cLX7s, csX7_take, sX7_take, sX7_determinant, sX7_comes, ms_a, ms_aaii, ms_ai, k0, fillA_R, r4, i3, hle, hmd, haok, n0, c0, nk, ck, hD, hDS]
        rw [nI_1]
        refine ⟨fun hy => ?_, fun hy => ?_⟩
        · refine ih hkn (fun j h1 h2 => ?_) _ _
          by_cases e : j = k + 1
          · rw [e]; exact hy
          · exact hall j h1 (by omega)
        · exact Or.inr ⟨by omega, Or.inr ⟨hsym, _, Or.inl ⟨k + 1, ⟨by omega, by omega⟩, hy, hall, rfl, rfl⟩⟩⟩
      · have hlt : nI (moL h x0) < nI (k + 1) := by rw [nI_ltI (by omega) (by omega)]; omega
        have w := cop hsym (fun j h1 h2 => hall j h1 (by omega)) g 0 (by omega) o
        have e0 : h.2.1 (x0 + 10) = (fillA h (x0 + 9) g).2.1 (x0 + 10) := by rw [fillA_ne (by omega)]
        rw [mdG_0, e0, fillA_self] at w
        refine mv_go hX 60 ?_
        simp only [mv_wps, mv_exq, mv_exr, mv_exn, mv_xg, mv_xpi, mv_xpl, mv_xpr, mv_xc, mv_xc2, mv_xs, mv_9z, mv_cqs, mv_calls, mv_lgz, mv_stz, mv_kz, mv_cz, mv_fvs, mv_ats, mv_ics, mv_rz, mv_tz, mv_cns, mv_nfs, mv_fins, mv_det, mv_cc, mv_c0, Nat.reduceAdd, Nat.reduceEqDiff, Nat.reduceLT, Nat.reduceLeDiff, Nat.reduceSub, reduceIte, decide_false, decide_true, Bool.false_eq_true, List.map_cons, List.map_nil, List.sum_cons, List.sum_nil, true_and, and_true, true_or, or_true, false_or, or_false, false_and, and_false, true_implies, false_implies, implies_true, not_true_eq_false, not_false_eq_true, lg_cmp_ge, lg_cmp_le, lg_cmp_gt, lg_cmp_lt, lg_cmp_eq, qX7_take, flX7s, cIX7s, cLX7s, csX7_take, sX7_take, sX7_determinant, sX7_comes, ms_a, ms_aaii, ms_ai, k0, i3, hlt]
        exact w
    have outer : ∀ i, i ≤ moL h x0 → (∀ j k, j < i → k < moL h x0 → shF h x0 j k = shF h x0 k j) → ∀ o, X 13 [some (.ref x0), some (.int (nI i)), o] [] h := by
      refine mv_up (moL h x0) ?_
      intro i hi ih hall o
      have inner : i < moL h x0 → ∀ k, k ≤ moL h x0 → (∀ k', k' < k → shF h x0 i k' = shF h x0 k' i) → X 23 [some (.ref x0), some (.int (nI i)), some (.int (nI k))] [] h := by
        intro hlt
        refine mv_up (moL h x0) ?_
        intro k hk ihk hallk
        by_cases hkn : k < moL h x0
        · have hle : ¬ nI (moL h x0) ≤ nI k := by rw [nI_leI (by omega) (by omega)]; omega
          have e1 : (4 : Int32) * nI i + nI k = nI (4 * i + k) := by rw [nI_c4, nI_mul, nI_add]
          have e2 : (4 : Int32) * nI k + nI i = nI (4 * k + i) := by rw [nI_c4, nI_mul, nI_add]
          have c1 : (nI (4 * i + k)).toNatClampNeg = 4 * i + k := nI_clamp (by omega)
          have c2 : (nI (4 * k + i)).toNatClampNeg = 4 * k + i := nI_clamp (by omega)
          have v1 : vp_in (nI (4 * i + k)) 16 := vp_in_nI (by omega) (by omega)
          have v2 : vp_in (nI (4 * k + i)) 16 := vp_in_nI (by omega) (by omega)
          refine mv_go hX 60 ?_
          simp only [mv_wps, mv_exq, mv_exr, mv_exn, mv_xg, mv_xpi, mv_xpl, mv_xpr, mv_xc, mv_xc2, mv_xs, mv_9z, mv_cqs, mv_calls, mv_lgz, mv_stz, mv_kz, mv_cz, mv_fvs, mv_ats, mv_ics, mv_rz, mv_tz, mv_cns, mv_nfs, mv_fins, mv_det, mv_cc, mv_c0, Nat.reduceAdd, Nat.reduceEqDiff, Nat.reduceLT, Nat.reduceLeDiff, Nat.reduceSub, reduceIte, decide_false, decide_true, Bool.false_eq_true, List.map_cons, List.map_nil, List.sum_cons, List.sum_nil, true_and, and_true, true_or, or_true, false_or, or_false, false_and, and_false, true_implies, false_implies, implies_true, not_true_eq_false, not_false_eq_true, lg_cmp_ge, lg_cmp_le, lg_cmp_gt, lg_cmp_lt, lg_cmp_eq, qX7_take, flX7s, cIX7s, cLX7s, csX7_take, sX7_take, sX7_determinant, sX7_comes, ms_a, ms_aaii, ms_ai, k0, r4, hL2, mv_lenK k3, hle, e1, e2, c1, c2, v1, v2, hSd]
          rw [nI_1]
          refine ⟨fun hy => ihk hkn (fun k' hk' => ?_), fun hy => ?_⟩
          · by_cases e : k' = k
            · rw [e]; exact hy
            · exact hallk k' (by omega)
          · exact Or.inr ⟨by omega, Or.inl ⟨i, hlt, ⟨k, hkn, hy⟩, hall, rfl, rfl⟩⟩
        · have hle : nI (moL h x0) ≤ nI k := by rw [nI_leI (by omega) (by omega)]; omega
          refine mv_go hX 60 ?_
          simp only [mv_wps, mv_exq, mv_exr, mv_exn, mv_xg, mv_xpi, mv_xpl, mv_xpr, mv_xc, mv_xc2, mv_xs, mv_9z, mv_cqs, mv_calls, mv_lgz, mv_stz, mv_kz, mv_cz, mv_fvs, mv_ats, mv_ics, mv_rz, mv_tz, mv_cns, mv_nfs, mv_fins, mv_det, mv_cc, mv_c0, Nat.reduceAdd, Nat.reduceEqDiff, Nat.reduceLT, Nat.reduceLeDiff, Nat.reduceSub, reduceIte, decide_false, decide_true, Bool.false_eq_true, List.map_cons, List.map_nil, List.sum_cons, List.sum_nil, true_and, and_true, true_or, or_true, false_or, or_false, false_and, and_false, true_implies, false_implies, implies_true, not_true_eq_false, not_false_eq_true, lg_cmp_ge, lg_cmp_le, lg_cmp_gt, lg_cmp_lt, lg_cmp_eq, qX7_take, flX7s, cIX7s, cLX7s, csX7_take, sX7_take, sX7_determinant, sX7_comes, ms_a, ms_aaii, ms_ai, k0, hL2, hle]
          rw [nI_1]
          refine ih hlt (fun j k' h1 h2 => ?_) _
          by_cases e : j = i
          · rw [e]; exact hallk k' (by omega)
          · exact hall j k' (by omega) h2
      by_cases hin : i < moL h x0
      · have hle : ¬ nI (moL h x0) ≤ nI i := by rw [nI_leI (by omega) (by omega)]; omega
        refine mv_go hX 60 ?_
        simp only [mv_wps, mv_exq, mv_exr, mv_exn, mv_xg, mv_xpi, mv_xpl, mv_xpr, mv_xc, mv_xc2, mv_xs, mv_9z, mv_cqs, mv_calls, mv_lgz, mv_stz, mv_kz, mv_cz, mv_fvs, mv_ats, mv_ics, mv_rz, mv_tz, mv_cns, mv_nfs, mv_fins, mv_det, mv_cc, mv_c0, Nat.reduceAdd, Nat.reduceEqDiff, Nat.reduceLT, Nat.reduceLeDiff, Nat.reduceSub, reduceIte, decide_false, decide_true, Bool.false_eq_true, List.map_cons, List.map_nil, List.sum_cons, List.sum_nil, true_and, and_true, true_or, or_true, false_or, or_false, false_and, and_false, true_implies, false_implies, implies_true, not_true_eq_false, not_false_eq_true, lg_cmp_ge, lg_cmp_le, lg_cmp_gt, lg_cmp_lt, lg_cmp_eq, qX7_take, flX7s, cIX7s, cLX7s, csX7_take, sX7_take, sX7_determinant, sX7_comes, ms_a, ms_aaii, ms_ai, k0, hL2, hle]
        exact inner hin 0 (by omega) (fun k' z => absurd z (by omega))
      · have hle : nI (moL h x0) ≤ nI i := by rw [nI_leI (by omega) (by omega)]; omega
        have w := dets (fun j k h1 h2 => hall j k (by omega) h2) 0 (by omega) (fun j h1 h2 => by omega) (h.2.1 (x0 + 9)) o
        rw [fillA_self] at w
        refine mv_go hX 60 ?_
        simp only [mv_wps, mv_exq, mv_exr, mv_exn, mv_xg, mv_xpi, mv_xpl, mv_xpr, mv_xc, mv_xc2, mv_xs, mv_9z, mv_cqs, mv_calls, mv_lgz, mv_stz, mv_kz, mv_cz, mv_fvs, mv_ats, mv_ics, mv_rz, mv_tz, mv_cns, mv_nfs, mv_fins, mv_det, mv_cc, mv_c0, Nat.reduceAdd, Nat.reduceEqDiff, Nat.reduceLT, Nat.reduceLeDiff, Nat.reduceSub, reduceIte, decide_false, decide_true, Bool.false_eq_true, List.map_cons, List.map_nil, List.sum_cons, List.sum_nil, true_and, and_true, true_or, or_true, false_or, or_false, false_and, and_false, true_implies, false_implies, implies_true, not_true_eq_false, not_false_eq_true, lg_cmp_ge, lg_cmp_le, lg_cmp_gt, lg_cmp_lt, lg_cmp_eq, qX7_take, flX7s, cIX7s, cLX7s, csX7_take, sX7_take, sX7_determinant, sX7_comes, ms_a, ms_aaii, ms_ai, k0, hL2, hle]
        exact w
    refine mv_go hX 60 ?_
    simp only [mv_wps, mv_exq, mv_exr, mv_exn, mv_xg, mv_xpi, mv_xpl, mv_xpr, mv_xc, mv_xc2, mv_xs, mv_9z, mv_cqs, mv_calls, mv_lgz, mv_stz, mv_kz, mv_cz, mv_fvs, mv_ats, mv_ics, mv_rz, mv_tz, mv_cns, mv_nfs, mv_fins, mv_det, mv_cc, mv_c0, Nat.reduceAdd, Nat.reduceEqDiff, Nat.reduceLT, Nat.reduceLeDiff, Nat.reduceSub, reduceIte, decide_false, decide_true, Bool.false_eq_true, List.map_cons, List.map_nil, List.sum_cons, List.sum_nil, true_and, and_true, true_or, or_true, false_or, or_false, false_and, and_false, true_implies, false_implies, implies_true, not_true_eq_false, not_false_eq_true, lg_cmp_ge, lg_cmp_le, lg_cmp_gt, lg_cmp_lt, lg_cmp_eq, qX7_take, flX7s, cIX7s, cLX7s, csX7_take, sX7_take, sX7_determinant, sX7_comes, ms_a, ms_aaii, ms_ai, k0, hC2, h20, hc20]
    exact outer 0 (by omega) (fun j k z => absurd z (by omega)) _
