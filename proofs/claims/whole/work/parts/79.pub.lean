/-! The reference: its calls, told by what they call. -/
def moI (kd : List (Nat × Nat)) (h : mv_M) (m : Nat) : Prop := moOk kd h m ∧ moN h m ∧ (isN (h.1 m 3) 5 ∧ isN (h.1 m 7) 1001 ∧ isN (h.1 m 8) 5 ∧ isN (h.1 m 10) 5) ∧ ∀ l, l < moC h m → latOk (moW h m l) (aT h (m + 2) (16 * l))
theorem i32_1M {x : Int32} : (1 ≤ x.toInt64 ∧ x.toInt64 ≤ 1000000) ↔ (1 ≤ x ∧ x ≤ 1000000) := by
  have e1 : (1 : Int64) = (1 : Int32).toInt64 := by decide
  have e2 : (1000000 : Int64) = (1000000 : Int32).toInt64 := by decide
  rw [e1, e2, i32_le, i32_le]
def rwOK (h : mv_M) (m : Nat) (l s : Int32) : Prop := inR (moC h m) l ∧ 1 ≤ s ∧ s ≤ 1000000
theorem rwOK.nat {h : mv_M} {m : Nat} {l s : Int32} (hc : moC h m < 21) (z : rwOK h m l s) : ∃ a, l = nI a ∧ a < moC h m ∧ 1 ≤ s.toInt64.toInt ∧ s.toInt64.toInt ≤ 1000000 := by
  obtain ⟨a, ha, e⟩ := inR_nat z.1 (by omega)
  have h1 := Int32.le_iff_toInt_le.mp z.2.1
  have h2 := Int32.le_iff_toInt_le.mp z.2.2
  rw [Int32.toInt_toInt64]
  exact ⟨a, e, ha, h1, h2⟩
def sX7_rows (kd : List (Nat × Nat)) : mv_S := ms_aii (fun m _ _ h => moI kd h m) (fun m l s h v h' => (¬ rwOK h m l s ∧ v = some (.int (-1)) ∧ h' = h) ∨ (rwOK h m l s ∧ ∃ h1, (fdPost h m l.toNatClampNeg s.toInt64.toInt (some (.int 0)) h1 ∧ v = some (.int (-2)) ∧ h' = h1) ∨ (fdPost h m l.toNatClampNeg s.toInt64.toInt (some (.int 1)) h1 ∧ v = some (.int (h1.1 m 13)) ∧ h' = moLs h1 m (moW h m l.toNatClampNeg))))
noncomputable def csX7_rows (kd : List (Nat × Nat)) : mv_CS := (mv_cc 104 7 1 (sX7_isLattice kd) (mv_cc 79 99 3 (sX7_isIn kd) (mv_cc 164 7 2 (sX7_find kd) (mv_cc 168 7 1 (sX7_list kd) mv_c0))))
theorem oX7_rows {l : Launch} {b : Nat} {ad : Nat → Nat} {D : va_G} {cA : Nat → ClassId} {kd : List (Nat × Nat)} (had : ∀ i, i < kd.length → ad i = b + i) : mv_Own l (mv_room 4) b ad D cA kd RX7 flX7 cIX7 cLX7 (csX7_rows kd) := (mv_oV lRX7_104 zX7_isLattice rfl (by decide) (ctX7_isLattice had) ⟨by decide, by decide⟩ (mv_oS lRX7_79 zX7_isIn (ctX7_isIn had) ⟨by decide, by decide⟩ (mv_oV lRX7_164 zX7_find rfl (by decide) (ctX7_find had) ⟨by decide, by decide⟩ (mv_oV lRX7_168 zX7_list rfl (by decide) (ctX7_list had) ⟨by decide, by decide⟩ (mv_o0 flX7_ok cIX7_ok cLX7_ok)))))
set_option maxRecDepth 100000 in
set_option maxHeartbeats 4000000 in
theorem ctX7_rows {l : Launch} {b : Nat} {ad : Nat → Nat} {D : va_G} {cA : Nat → ClassId} {kd : List (Nat × Nat)} (had : ∀ i, i < kd.length → ad i = b + i) : mv_Ct l b ad D cA kd yX7_rows cX7_rows 3 (some .int) 4 (sX7_rows kd) := by
  refine mv_introF (rk := 1) tX7_rows (mv_pf plRX7) kX7_rows had ⟨(fun e => by cases e), (fun _ => rfl), (fun e => by cases e), (fun e => by cases e), (fun e => by cases e)⟩ (oX7_rows had) ?_
  intro h as hp
  obtain ⟨x0, x1, x2, rfl, hq⟩ := ms_aii_inv hp
  refine ⟨Nat.le_of_ble_eq_true rfl, fun X hX => ?_⟩
  show X 0 [some (.ref x0), some (.int x1), some (.int x2)] [] h
  obtain ⟨hm, hN, -, hlat⟩ := hq
  obtain ⟨⟨k0, k1, k2, k3, k4, k5, k6, k7, k8, k9, k10, k11, k12, k13, k14, k15, k16, k17, k18, k19, k20⟩, ⟨r0, r1, r4, r5, r6, r9, r11, r12, r14, r15, r16, r17, r18, r19, r20, r21, r22, r23, r24, r25⟩⟩ := id hm
  have hC : moC h x0 < 21 := hN.1.2
  by_cases hz : rwOK h x0 x1 x2
  · obtain ⟨a, rfl, ha, hs1, hs2⟩ := hz.nat hC
    have ca : (nI a).toNatClampNeg = a := nI_clamp (by omega)
    have na : isN (nI a) 20 := isN.nI (by omega) (by omega)
    have va : vp_in (nI a) 20 := vp_in_nI (by omega) (by omega)
    have hw := hN.2 a (by omega)
    have hla := hlat a ha
    have hs3 : x2.toInt64.toInt ≤ 16000000 := by omega
    obtain ⟨z1, z2⟩ := id hz
    have h10 : ¬ (1 : Int32) = 0 := by decide
    refine mv_go hX 14 ?_
    simp only [mv_wps, mv_exq, mv_exr, mv_exn, mv_xg, mv_xpi, mv_xpl, mv_xpr, mv_xc, mv_xc2, mv_xs, mv_9z, mv_cqs, mv_calls, mv_lgz, mv_stz, mv_kz, mv_cz, mv_fvs, mv_ats, mv_ics, mv_rz, mv_tz, mv_cns, mv_nfs, mv_fins, mv_det, mv_cc, mv_c0, Nat.reduceAdd, Nat.reduceEqDiff, Nat.reduceLT, Nat.reduceLeDiff, Nat.reduceSub, reduceIte, decide_false, decide_true, Bool.false_eq_true, List.map_cons, List.map_nil, List.sum_cons, List.sum_nil, true_and, and_true, true_or, or_true, false_or, or_false, false_and, and_false, true_implies, false_implies, implies_true, not_true_eq_false, not_false_eq_true, lg_cmp_ge, lg_cmp_le, lg_cmp_gt, lg_cmp_lt, lg_cmp_eq, qX7_rows, flX7s, cIX7s, cLX7s, csX7_rows, sX7_rows, sX7_isLattice, sX7_isIn, sX7_find, sX7_list, ms_ai, ms_aii, ms_ail, ms_lll, k0, hm, hN.1, mv_b01, z1, i32_1M, z2, Classical.not_not, na, ca, hw, hla, hs1, hs3, h10]
    refine ⟨fun y => absurd z1 y, fun _ => ?_⟩
    intro v h' hpost
    obtain ⟨A, c', R, hh, hR, h19, hcase⟩ := id hpost
    rcases hcase with ⟨rfl, -⟩ | ⟨rfl, -, c, P, hc, hcc, -, -⟩
    · refine mv_go hX 20 ?_
      simp only [mv_wps, mv_exq, mv_exr, mv_exn, mv_xg, mv_xpi, mv_xpl, mv_xpr, mv_xc, mv_xc2, mv_xs, mv_9z, mv_cqs, mv_calls, mv_lgz, mv_stz, mv_kz, mv_cz, mv_fvs, mv_ats, mv_ics, mv_rz, mv_tz, mv_cns, mv_nfs, mv_fins, mv_det, mv_cc, mv_c0, Nat.reduceAdd, Nat.reduceEqDiff, Nat.reduceLT, Nat.reduceLeDiff, Nat.reduceSub, reduceIte, decide_false, decide_true, Bool.false_eq_true, List.map_cons, List.map_nil, List.sum_cons, List.sum_nil, true_and, and_true, true_or, or_true, false_or, or_false, false_and, and_false, true_implies, false_implies, implies_true, not_true_eq_false, not_false_eq_true, lg_cmp_ge, lg_cmp_le, lg_cmp_gt, lg_cmp_lt, lg_cmp_eq, qX7_rows, flX7s, cIX7s, cLX7s, csX7_rows, sX7_rows, sX7_isLattice, sX7_isIn, sX7_find, sX7_list, ms_ai, ms_aii, ms_ail, ms_lll]
      rw [ca]
      exact Or.inr ⟨hz, h', Or.inl ⟨hpost, rfl⟩⟩
    · have h10 : ¬ (1 : Int32) = 0 := by decide
      have Hm : moOk kd h' x0 := by rw [hh]; exact hm.fd
      have HR : h'.2.2 = h.2.2 := by rw [hh]; rfl
      have Hw : h'.1 (x0 + 1) a = h.1 (x0 + 1) a := by rw [hh, fdW_i (by omega)]
      have H13 : h'.1 x0 13 = nI c := by rw [hh, fdW_c]; exact hcc
      have n13 : isN (nI c) 1001 := isN.nI (by omega) (by omega)
      have Hfc : moFc h' x0 = c := by unfold moFc; rw [H13, nI_clamp (by omega)]
      have w1 : (h.1 (x0 + 1) a).toNatClampNeg = moW h x0 a := rfl
      have hls : (moLs h' x0 (moW h x0 a)).1 x0 7 = nI c := by
        show (mv_si (mv_si h' x0 7 (nI (moFc h' x0))) x0 8 (nI (moW h x0 a))).1 x0 7 = nI c
        rw [Hfc]
        simp [mv_si]
      refine mv_go hX 40 ?_
      simp only [mv_wps, mv_exq, mv_exr, mv_exn, mv_xg, mv_xpi, mv_xpl, mv_xpr, mv_xc, mv_xc2, mv_xs, mv_9z, mv_cqs, mv_calls, mv_lgz, mv_stz, mv_kz, mv_cz, mv_fvs, mv_ats, mv_ics, mv_rz, mv_tz, mv_cns, mv_nfs, mv_fins, mv_det, mv_cc, mv_c0, Nat.reduceAdd, Nat.reduceEqDiff, Nat.reduceLT, Nat.reduceLeDiff, Nat.reduceSub, reduceIte, decide_false, decide_true, Bool.false_eq_true, List.map_cons, List.map_nil, List.sum_cons, List.sum_nil, true_and, and_true, true_or, or_true, false_or, or_false, false_and, and_false, true_implies, false_implies, implies_true, not_true_eq_false, not_false_eq_true, lg_cmp_ge, lg_cmp_le, lg_cmp_gt, lg_cmp_lt, lg_cmp_eq, qX7_rows, flX7s, cIX7s, cLX7s, csX7_rows, sX7_rows, sX7_isLattice, sX7_isIn, sX7_find, sX7_list, ms_ai, ms_aii, ms_ail, ms_lll, k0, h10, HR, r0, mv_lenK k1, ca, va, Hw, Hm, hw, H13, n13, w1, hls]
      exact Or.inr ⟨hz, h', Or.inr ⟨hpost, by rw [H13], rfl⟩⟩
  · refine mv_go hX 14 ?_
    simp only [mv_wps, mv_exq, mv_exr, mv_exn, mv_xg, mv_xpi, mv_xpl, mv_xpr, mv_xc, mv_xc2, mv_xs, mv_9z, mv_cqs, mv_calls, mv_lgz, mv_stz, mv_kz, mv_cz, mv_fvs, mv_ats, mv_ics, mv_rz, mv_tz, mv_cns, mv_nfs, mv_fins, mv_det, mv_cc, mv_c0, Nat.reduceAdd, Nat.reduceEqDiff, Nat.reduceLT, Nat.reduceLeDiff, Nat.reduceSub, reduceIte, decide_false, decide_true, Bool.false_eq_true, List.map_cons, List.map_nil, List.sum_cons, List.sum_nil, true_and, and_true, true_or, or_true, false_or, or_false, false_and, and_false, true_implies, false_implies, implies_true, not_true_eq_false, not_false_eq_true, lg_cmp_ge, lg_cmp_le, lg_cmp_gt, lg_cmp_lt, lg_cmp_eq, qX7_rows, flX7s, cIX7s, cLX7s, csX7_rows, sX7_rows, sX7_isLattice, sX7_isIn, sX7_find, sX7_list, ms_ai, ms_aii, ms_ail, ms_lll, k0, hm, hN.1, mv_b01, i32_1M, Classical.not_not]
    refine ⟨fun y => ?_, fun y => ⟨fun w => ?_, fun w => ?_⟩⟩
    · exact Or.inl hz
    · exact absurd ⟨y, w⟩ hz
    · exact Or.inl hz
def sX7_theta (kd : List (Nat × Nat)) : mv_S := ms_aii (fun m _ _ h => moI kd h m) (fun m l s h v h' => (¬ rwOK h m l s ∧ v = some (.int (-1)) ∧ h' = h) ∨ (rwOK h m l s ∧ ((fdPost h m l.toNatClampNeg s.toInt64.toInt (some (.int 0)) h' ∧ v = some (.int (-2))) ∨ (fdPost h m l.toNatClampNeg s.toInt64.toInt (some (.int 1)) h' ∧ v = some (.int (nI (myF (h'.2.1 (m + 8)) s.toInt64 (moFc h' m))))))))
noncomputable def csX7_theta (kd : List (Nat × Nat)) : mv_CS := (mv_cc 104 7 1 (sX7_isLattice kd) (mv_cc 79 99 3 (sX7_isIn kd) (mv_cc 164 7 2 (sX7_find kd) (mv_cc 172 7 1 (sX7_many kd) mv_c0))))
theorem oX7_theta {l : Launch} {b : Nat} {ad : Nat → Nat} {D : va_G} {cA : Nat → ClassId} {kd : List (Nat × Nat)} (had : ∀ i, i < kd.length → ad i = b + i) : mv_Own l (mv_room 4) b ad D cA kd RX7 flX7 cIX7 cLX7 (csX7_theta kd) := (mv_oV lRX7_104 zX7_isLattice rfl (by decide) (ctX7_isLattice had) ⟨by decide, by decide⟩ (mv_oS lRX7_79 zX7_isIn (ctX7_isIn had) ⟨by decide, by decide⟩ (mv_oV lRX7_164 zX7_find rfl (by decide) (ctX7_find had) ⟨by decide, by decide⟩ (mv_oV lRX7_172 zX7_many rfl (by decide) (ctX7_many had) ⟨by decide, by decide⟩ (mv_o0 flX7_ok cIX7_ok cLX7_ok)))))
set_option maxRecDepth 100000 in
set_option maxHeartbeats 4000000 in
theorem ctX7_theta {l : Launch} {b : Nat} {ad : Nat → Nat} {D : va_G} {cA : Nat → ClassId} {kd : List (Nat × Nat)} (had : ∀ i, i < kd.length → ad i = b + i) : mv_Ct l b ad D cA kd yX7_theta cX7_theta 3 (some .int) 4 (sX7_theta kd) := by
  refine mv_introF (rk := 1) tX7_theta (mv_pf plRX7) kX7_theta had ⟨(fun e => by cases e), (fun _ => rfl), (fun e => by cases e), (fun e => by cases e), (fun e => by cases e)⟩ (oX7_theta had) ?_
  intro h as hp
  obtain ⟨x0, x1, x2, rfl, hq⟩ := ms_aii_inv hp
  refine ⟨Nat.le_of_ble_eq_true rfl, fun X hX => ?_⟩
  show X 0 [some (.ref x0), some (.int x1), some (.int x2)] [] h
  obtain ⟨hm, hN, -, hlat⟩ := hq
  obtain ⟨⟨k0, k1, k2, k3, k4, k5, k6, k7, k8, k9, k10, k11, k12, k13, k14, k15, k16, k17, k18, k19, k20⟩, ⟨r0, r1, r4, r5, r6, r9, r11, r12, r14, r15, r16, r17, r18, r19, r20, r21, r22, r23, r24, r25⟩⟩ := id hm
  have hC : moC h x0 < 21 := hN.1.2
  by_cases hz : rwOK h x0 x1 x2
  · obtain ⟨a, rfl, ha, hs1, hs2⟩ := hz.nat hC
    have ca : (nI a).toNatClampNeg = a := nI_clamp (by omega)
    have na : isN (nI a) 20 := isN.nI (by omega) (by omega)
    have hw := hN.2 a (by omega)
    have hla := hlat a ha
    have hs3 : x2.toInt64.toInt ≤ 16000000 := by omega
    obtain ⟨z1, z2⟩ := id hz
    have h10 : ¬ (1 : Int32) = 0 := by decide
    refine mv_go hX 14 ?_
    simp only [mv_wps, mv_exq, mv_exr, mv_exn, mv_xg, mv_xpi, mv_xpl, mv_xpr, mv_xc, mv_xc2, mv_xs, mv_9z, mv_cqs, mv_calls, mv_lgz, mv_stz, mv_kz, mv_cz, mv_fvs, mv_ats, mv_ics, mv_rz, mv_tz, mv_cns, mv_nfs, mv_fins, mv_det, mv_cc, mv_c0, Nat.reduceAdd, Nat.reduceEqDiff, Nat.reduceLT, Nat.reduceLeDiff, Nat.reduceSub, reduceIte, decide_false, decide_true, Bool.false_eq_true, List.map_cons, List.map_nil, List.sum_cons, List.sum_nil, true_and, and_true, true_or, or_true, false_or, or_false, false_and, and_false, true_implies, false_implies, implies_true, not_true_eq_false, not_false_eq_true, lg_cmp_ge, lg_cmp_le, lg_cmp_gt, lg_cmp_lt, lg_cmp_eq, qX7_theta, flX7s, cIX7s, cLX7s, csX7_theta, sX7_theta, sX7_isLattice, sX7_isIn, sX7_find, sX7_many, ms_ai, ms_aii, ms_ail, ms_al, ms_lll, k0, hm, hN.1, mv_b01, z1, i32_1M, z2, Classical.not_not, na, ca, hw, hla, hs1, hs3, h10]
    refine ⟨fun y => absurd z1 y, fun _ => ?_⟩
    intro v h' hpost
    obtain ⟨A, c', R, hh, hR, h19, hcase⟩ := id hpost
    rcases hcase with ⟨rfl, -⟩ | ⟨rfl, -, c, P, hc, hcc, -, -⟩
    · refine mv_go hX 20 ?_
      simp only [mv_wps, mv_exq, mv_exr, mv_exn, mv_xg, mv_xpi, mv_xpl, mv_xpr, mv_xc, mv_xc2, mv_xs, mv_9z, mv_cqs, mv_calls, mv_lgz, mv_stz, mv_kz, mv_cz, mv_fvs, mv_ats, mv_ics, mv_rz, mv_tz, mv_cns, mv_nfs, mv_fins, mv_det, mv_cc, mv_c0, Nat.reduceAdd, Nat.reduceEqDiff, Nat.reduceLT, Nat.reduceLeDiff, Nat.reduceSub, reduceIte, decide_false, decide_true, Bool.false_eq_true, List.map_cons, List.map_nil, List.sum_cons, List.sum_nil, true_and, and_true, true_or, or_true, false_or, or_false, false_and, and_false, true_implies, false_implies, implies_true, not_true_eq_false, not_false_eq_true, lg_cmp_ge, lg_cmp_le, lg_cmp_gt, lg_cmp_lt, lg_cmp_eq, qX7_theta, flX7s, cIX7s, cLX7s, csX7_theta, sX7_theta, sX7_isLattice, sX7_isIn, sX7_find, sX7_many, ms_ai, ms_aii, ms_ail, ms_al, ms_lll]
      rw [ca]
      exact Or.inr ⟨hz, Or.inl hpost⟩
    · have h10 : ¬ (1 : Int32) = 0 := by decide
      have Hm : moOk kd h' x0 := by rw [hh]; exact hm.fd
      have H13 : h'.1 x0 13 = nI c := by rw [hh, fdW_c]; exact hcc
      have n13 : isN (nI c) 1001 := isN.nI (by omega) (by omega)
      refine mv_go hX 40 ?_
      simp only [mv_wps, mv_exq, mv_exr, mv_exn, mv_xg, mv_xpi, mv_xpl, mv_xpr, mv_xc, mv_xc2, mv_xs, mv_9z, mv_cqs, mv_calls, mv_lgz, mv_stz, mv_kz, mv_cz, mv_fvs, mv_ats, mv_ics, mv_rz, mv_tz, mv_cns, mv_nfs, mv_fins, mv_det, mv_cc, mv_c0, Nat.reduceAdd, Nat.reduceEqDiff, Nat.reduceLT, Nat.reduceLeDiff, Nat.reduceSub, reduceIte, decide_false, decide_true, Bool.false_eq_true, List.map_cons, List.map_nil, List.sum_cons, List.sum_nil, true_and, and_true, true_or, or_true, false_or, or_false, false_and, and_false, true_implies, false_implies, implies_true, not_true_eq_false, not_false_eq_true, lg_cmp_ge, lg_cmp_le, lg_cmp_gt, lg_cmp_lt, lg_cmp_eq, qX7_theta, flX7s, cIX7s, cLX7s, csX7_theta, sX7_theta, sX7_isLattice, sX7_isIn, sX7_find, sX7_many, ms_ai, ms_aii, ms_ail, ms_al, ms_lll, k0, h10, Hm, H13, n13]
      rw [ca]
      exact Or.inr ⟨hz, Or.inr hpost⟩
  · refine mv_go hX 14 ?_
    simp only [mv_wps, mv_exq, mv_exr, mv_exn, mv_xg, mv_xpi, mv_xpl, mv_xpr, mv_xc, mv_xc2, mv_xs, mv_9z, mv_cqs, mv_calls, mv_lgz, mv_stz, mv_kz, mv_cz, mv_fvs, mv_ats, mv_ics, mv_rz, mv_tz, mv_cns, mv_nfs, mv_fins, mv_det, mv_cc, mv_c0, Nat.reduceAdd, Nat.reduceEqDiff, Nat.reduceLT, Nat.reduceLeDiff, Nat.reduceSub, reduceIte, decide_false, decide_true, Bool.false_eq_true, List.map_cons, List.map_nil, List.sum_cons, List.sum_nil, true_and, and_true, true_or, or_true, false_or, or_false, false_and, and_false, true_implies, false_implies, implies_true, not_true_eq_false, not_false_eq_true, lg_cmp_ge, lg_cmp_le, lg_cmp_gt, lg_cmp_lt, lg_cmp_eq, qX7_theta, flX7s, cIX7s, cLX7s, csX7_theta, sX7_theta, sX7_isLattice, sX7_isIn, sX7_find, sX7_many, ms_ai, ms_aii, ms_ail, ms_al, ms_lll, k0, hm, hN.1, mv_b01, i32_1M, Classical.not_not]
    refine ⟨fun y => ?_, fun y => ⟨fun w => ?_, fun w => ?_⟩⟩
    · exact Or.inl hz
    · exact absurd ⟨y, w⟩ hz
    · exact Or.inl hz
