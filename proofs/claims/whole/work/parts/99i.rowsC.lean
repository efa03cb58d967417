/-! The bench's calls that gather rows. -/
/-- a lattice of the bench stands as it should -/
def clL (h : mv_M) (a : Nat) : Prop := latOk (gn h (a + 1)) (gM h (a + 1)) ∧ laIs h a (gn h (a + 1)) (gM h (a + 1)) ∧ ∀ r c, ¬ (r < gn h (a + 1) ∧ c < gn h (a + 1)) → gM h (a + 1) r c = 0 ∧ gM h (a + 3) r c = 0
def clI (kd : List (Nat × Nat)) (h : mv_M) : Prop := sbOk kd h ∧ ∀ l, l < sbC h → clL h (37 + 6 * l)
theorem sbOk.ls {kd : List (Nat × Nat)} {h : mv_M} (z : sbOk kd h) : boOk kd h (sbLs h) ∧ boOk kd h (sbSp h) := by
  unfold sbLs sbSp
  split
  · exact ⟨z.2.2.2.1.1, z.2.2.2.1.2⟩
  · exact ⟨z.2.2.2.1.2, z.2.2.2.1.1⟩
theorem sbSp_or (h : mv_M) : sbSp h = 29 ∨ sbSp h = 33 := by
  unfold sbSp
  split
  · exact Or.inr rfl
  · exact Or.inl rfl
theorem sbR.same {h h' : mv_M} (e : h'.2.2 = h.2.2) (z : sbR h) : sbR h' := by
  unfold sbR at *
  rw [e]
  exact z
def rwK (h : mv_M) (l s : Int32) : Prop := inR (sbC h) l ∧ 1 ≤ s ∧ s ≤ 1000000
def rwO (h : mv_M) (l : Nat) (s : Int32) : Int32 × mv_M := guO h 8 (37 + 6 * l) s (sbSp h)
/-- what was gathered -/
def rwM (n : Nat) (F : Nat → Nat → Int64) (S : Int) (b : Nat) (O : Int32 × mv_M) : Prop := ∃ R, bxR (lT F) n S R ∧ ((O.1 = -2 ∧ (300000 < prZ (bsp R) n ∨ moreR (bqF (lT F) n R) S (prZ (bsp R) n) 1000)) ∨ (prZ (bsp R) n ≤ 300000 ∧ ∃ (c : Nat) (P : Nat → Int), c ≤ 1000 ∧ O.1 = nI c ∧ isRows (bqF (lT F) n R) S (prZ (bsp R) n) c P ∧ bkL O.2 b n (blo R) (bsp R) (bqF (lT F) n R) c P))
theorem rwO_ok {kd : List (Nat × Nat)} {h : mv_M} {l : Nat} {s : Int32} (hI : clI kd h) (hl : l < sbC h) (hs : 1 ≤ s.toInt ∧ s.toInt ≤ 1000000) : guPre h 8 (37 + 6 * l) s (sbSp h) ∧ swFr 8 (sbSp h) h (rwO h l s).2 ∧ swOk kd (rwO h l s).2 8 ∧ boOk kd (rwO h l s).2 (sbSp h) ∧ rwM (gn h (37 + 6 * l + 1)) (gM h (37 + 6 * l + 1)) s.toInt (sbSp h) (rwO h l s) := guO_spec (w := 8) (s := s) (b := sbSp h) hI.1.2.2.1.1 (hI.1.2.2.2.2 l (by have := hI.1.1.2.2.2; omega)) hI.1.ls.2 (hI.2 l hl).1 (hI.2 l hl).2.1 hs (by have := sbSp_or h; omega) (by omega) (by have := sbSp_or h; omega)
theorem rwM.sgn {n : Nat} {F : Nat → Nat → Int64} {S : Int} {b : Nat} {O : Int32 × mv_M} (z : rwM n F S b O) : O.1 = -2 ∨ ∃ c, c ≤ 1000 ∧ O.1 = nI c := by
  obtain ⟨R, -, z⟩ := z
  rcases z with z | ⟨-, c, P, hc, e, -⟩
  · exact Or.inl z.1
  · exact Or.inr ⟨c, hc, e⟩
def sX6_rows (kd : List (Nat × Nat)) : mv_S := ms_aii (fun b _ _ h => b = 0 ∧ clI kd h) (fun _ l s h v h' => (¬ rwK h l s ∧ v = some (.int (-1)) ∧ h' = h) ∨ (rwK h l s ∧ v = some (.int (rwO h l.toNatClampNeg s).1) ∧ h' = if (rwO h l.toNatClampNeg s).1 < 0 then (rwO h l.toNatClampNeg s).2 else sbSwap (rwO h l.toNatClampNeg s).2))
noncomputable def csX6_rows (kd : List (Nat × Nat)) : mv_CS := (mv_cc 103 6 1 (sX6_latticeAt kd) (mv_cc 118 5 3 (sX5_gatherUpTo kd) (mv_cc 122 6 1 (sX6_showSpare kd) mv_c0)))
theorem oX6_rows {l : Launch} {b : Nat} {ad : Nat → Nat} {D : va_G} {cA : Nat → ClassId} {kd : List (Nat × Nat)} (had : ∀ i, i < kd.length → ad i = b + i) : mv_Own l (mv_room 5) b ad D cA kd RX6 flX6 cIX6 cLX6 (csX6_rows kd) := (mv_oV lRX6_103 zX6_latticeAt rfl (by decide) (ctX6_latticeAt had) ⟨by decide, by decide⟩ (mv_oV lRX6_118 zX5_gatherUpTo rfl (by decide) (ctX5_gatherUpTo had) ⟨by decide, by decide⟩ (mv_oV lRX6_122 zX6_showSpare rfl (by decide) (ctX6_showSpare had) ⟨by decide, by decide⟩ (mv_o0 flX6_ok cIX6_ok cLX6_ok))))
set_option maxRecDepth 100000 in
set_option maxHeartbeats 4000000 in
theorem ctX6_rows {l : Launch} {b : Nat} {ad : Nat → Nat} {D : va_G} {cA : Nat → ClassId} {kd : List (Nat × Nat)} (had : ∀ i, i < kd.length → ad i = b + i) : mv_Ct l b ad D cA kd yX6_rows cX6_rows 4 (some .int) 5 (sX6_rows kd) := by
  refine mv_introF (rk := 1) tX6_rows (mv_pf plRX6) kX6_rows had ⟨(fun e => by cases e), (fun _ => rfl), (fun e => by cases e), (fun e => by cases e), (fun e => by cases e)⟩ (oX6_rows had) ?_
  intro h as hp
  obtain ⟨x0, x1, x2, rfl, hq⟩ := ms_aii_inv hp
  refine ⟨Nat.le_of_ble_eq_true rfl, fun X hX => ?_⟩
  show X 0 [some (.ref x0), some (.int x1), some (.int x2), none] [] h
  obtain ⟨rfl, hI⟩ := hq
  have hS := hI.1
  obtain ⟨⟨⟨K1, K2⟩, ⟨⟨p0, p1, p2, p3, p4, p5, p6⟩, pls, psh⟩, hC⟩, ⟨g1, g3, g5⟩, ⟨hw, hu, hr⟩, ⟨b29, b33⟩, hla⟩ := id hS
  obtain ⟨pl, psp⟩ := sbLs_eq hS.1.2.1
  have e1M : (1000000 : Int32) = nI 1000000 := by decide
  by_cases hin : inR (sbC h) x1
  · have eA : sbAt h x1 = .ref (37 + 6 * x1.toNatClampNeg) := if_pos hin
    obtain ⟨a, ha, rfl⟩ := inR_nat hin (by have := hC.2; omega)
    have ca : (nI a).toNatClampNeg = a := nI_clamp (by have := hC.2; omega)
    rw [ca] at eA
    have hLa := hla a (by have := hC.2; omega)
    by_cases hs : 1 ≤ x2 ∧ x2 ≤ 1000000
    · have hok : rwK h (nI a) x2 := ⟨hin, hs⟩
      have hs1 := Int32.le_iff_toInt_le.mp hs.1
      have hs2 := Int32.le_iff_toInt_le.mp hs.2
      obtain ⟨pre, fr, w2, b2, -⟩ := rwO_ok (s := x2) hI ha ⟨hs1, hs2⟩
      have hB := hS.ls.2
      have eO : guO h 8 (37 + 6 * a) x2 (sbSp h) = rwO h a x2 := rfl
      have hR2 := sbR.same fr.1 hS.1.2.1
      refine mv_go hX 60 ?_
      simp only [mv_wps, mv_exq, mv_exr, mv_exn, mv_xg, mv_xpi, mv_xpl, mv_xpr, mv_xc, mv_xc2, mv_xs, mv_9z, mv_cqs, mv_calls, mv_lgz, mv_stz, mv_kz, mv_cz, mv_fvs, mv_ats, mv_ics, mv_rz, mv_tz, mv_cns, mv_nfs, mv_fins, mv_det, mv_cc, mv_c0, Nat.reduceAdd, Nat.reduceEqDiff, Nat.reduceLT, Nat.reduceLeDiff, Nat.reduceSub, reduceIte, decide_false, decide_true, Bool.false_eq_true, List.map_cons, List.map_nil, List.sum_cons, List.sum_nil, true_and, and_true, true_or, or_true, false_or, or_false, false_and, and_false, true_implies, false_implies, implies_true, not_true_eq_false, not_false_eq_true, lg_cmp_ge, lg_cmp_le, lg_cmp_gt, lg_cmp_lt, lg_cmp_eq, qX6_rows, flX6s, cIX6s, cLX6s, csX6_rows, sX6_rows, sX6_latticeAt, sX5_gatherUpTo, sX6_showSpare, ms_aaia, ms_ai, ms_aii, K1, hS, eA, p4, psp, hw, hw.1, hLa, hLa.1, hB, hB.1, pre, eO, hR2, hS.1.1, ca]
      exact ⟨fun z => absurd hs.1 (Int32.not_le.mpr z), fun _ => ⟨fun _ => ⟨⟨by omega, by omega⟩, Or.inr hok⟩, fun z => absurd hs.2 z⟩⟩
    · refine mv_go hX 60 ?_
      simp only [mv_wps, mv_exq, mv_exr, mv_exn, mv_xg, mv_xpi, mv_xpl, mv_xpr, mv_xc, mv_xc2, mv_xs, mv_9z, mv_cqs, mv_calls, mv_lgz, mv_stz, mv_kz, mv_cz, mv_fvs, mv_ats, mv_ics, mv_rz, mv_tz, mv_cns, mv_nfs, mv_fins, mv_det, mv_cc, mv_c0, Nat.reduceAdd, Nat.reduceEqDiff, Nat.reduceLT, Nat.reduceLeDiff, Nat.reduceSub, reduceIte, decide_false, decide_true, Bool.false_eq_true, List.map_cons, List.map_nil, List.sum_cons, List.sum_nil, true_and, and_true, true_or, or_true, false_or, or_false, false_and, and_false, true_implies, false_implies, implies_true, not_true_eq_false, not_false_eq_true, lg_cmp_ge, lg_cmp_le, lg_cmp_gt, lg_cmp_lt, lg_cmp_eq, qX6_rows, flX6s, cIX6s, cLX6s, csX6_rows, sX6_rows, sX6_latticeAt, sX5_gatherUpTo, sX6_showSpare, ms_aaia, ms_ai, ms_aii, K1, hS, eA]
      refine ⟨fun z => ?_, fun z => ⟨fun y => ?_, fun y => ?_⟩⟩
      · exact Or.inl (fun q => hs q.2)
      · exact absurd ⟨Int32.not_lt.mp z, y⟩ hs
      · exact Or.inl (fun q => hs q.2)
  · have eA : sbAt h x1 = .null := if_neg hin
    refine mv_go hX 60 ?_
    simp only [mv_wps, mv_exq, mv_exr, mv_exn, mv_xg, mv_xpi, mv_xpl, mv_xpr, mv_xc, mv_xc2, mv_xs, mv_9z, mv_cqs, mv_calls, mv_lgz, mv_stz, mv_kz, mv_cz, mv_fvs, mv_ats, mv_ics, mv_rz, mv_tz, mv_cns, mv_nfs, mv_fins, mv_det, mv_cc, mv_c0, Nat.reduceAdd, Nat.reduceEqDiff, Nat.reduceLT, Nat.reduceLeDiff, Nat.reduceSub, reduceIte, decide_false, decide_true, Bool.false_eq_true, List.map_cons, List.map_nil, List.sum_cons, List.sum_nil, true_and, and_true, true_or, or_true, false_or, or_false, false_and, and_false, true_implies, false_implies, implies_true, not_true_eq_false, not_false_eq_true, lg_cmp_ge, lg_cmp_le, lg_cmp_gt, lg_cmp_lt, lg_cmp_eq, qX6_rows, flX6s, cIX6s, cLX6s, csX6_rows, sX6_rows, sX6_latticeAt, sX5_gatherUpTo, sX6_showSpare, ms_aaia, ms_ai, ms_aii, K1, hS, eA]
    exact Or.inl (fun q => hin q.1)
def thV (M : mv_M) (b : Nat) (s : Int32) : Int32 := huFa M b s.toInt64 - huFa M b (s.toInt64 - 1)
def sX6_theta (kd : List (Nat × Nat)) : mv_S := ms_aii (fun b _ _ h => b = 0 ∧ clI kd h) (fun _ l s h v h' => (¬ rwK h l s ∧ v = some (.int (-1)) ∧ h' = h) ∨ (rwK h l s ∧ v = some (.int (if (rwO h l.toNatClampNeg s).1 < 0 then -2 else thV (rwO h l.toNatClampNeg s).2 (sbSp h) s)) ∧ h' = (rwO h l.toNatClampNeg s).2))
noncomputable def csX6_theta (kd : List (Nat × Nat)) : mv_CS := (mv_cc 103 6 1 (sX6_latticeAt kd) (mv_cc 118 5 3 (sX5_gatherUpTo kd) (mv_cc 126 0 1 (sX0_firstAbove kd) mv_c0)))
theorem oX6_theta {l : Launch} {b : Nat} {ad : Nat → Nat} {D : va_G} {cA : Nat → ClassId} {kd : List (Nat × Nat)} (had : ∀ i, i < kd.length → ad i = b + i) : mv_Own l (mv_room 5) b ad D cA kd RX6 flX6 cIX6 cLX6 (csX6_theta kd) := (mv_oV lRX6_103 zX6_latticeAt rfl (by decide) (ctX6_latticeAt had) ⟨by decide, by decide⟩ (mv_oV lRX6_118 zX5_gatherUpTo rfl (by decide) (ctX5_gatherUpTo had) ⟨by decide, by decide⟩ (mv_oV lRX6_126 zX0_firstAbove rfl (by decide) (ctX0_firstAbove had) ⟨by decide, by decide⟩ (mv_o0 flX6_ok cIX6_ok cLX6_ok))))
set_option maxRecDepth 100000 in
set_option maxHeartbeats 4000000 in
theorem ctX6_theta {l : Launch} {b : Nat} {ad : Nat → Nat} {D : va_G} {cA : Nat → ClassId} {kd : List (Nat × Nat)} (had : ∀ i, i < kd.length → ad i = b + i) : mv_Ct l b ad D cA kd yX6_theta cX6_theta 4 (some .int) 5 (sX6_theta kd) := by
  refine mv_introF (rk := 1) tX6_theta (mv_pf plRX6) kX6_theta had ⟨(fun e => by cases e), (fun _ => rfl), (fun e => by cases e), (fun e => by cases e), (fun e => by cases e)⟩ (oX6_theta had) ?_
  intro h as hp
  obtain ⟨x0, x1, x2, rfl, hq⟩ := ms_aii_inv hp
  refine ⟨Nat.le_of_ble_eq_true rfl, fun X hX => ?_⟩
  show X 0 [some (.ref x0), some (.int x1), some (.int x2), none] [] h
  obtain ⟨rfl, hI⟩ := hq
  have hS := hI.1
  obtain ⟨⟨⟨K1, K2⟩, ⟨⟨p0, p1, p2, p3, p4, p5, p6⟩, pls, psh⟩, hC⟩, ⟨g1, g3, g5⟩, ⟨hw, hu, hr⟩, ⟨b29, b33⟩, hla⟩ := id hS
  obtain ⟨pl, psp⟩ := sbLs_eq hS.1.2.1
  by_cases hin : inR (sbC h) x1
  · have eA : sbAt h x1 = .ref (37 + 6 * x1.toNatClampNeg) := if_pos hin
    obtain ⟨a, ha, rfl⟩ := inR_nat hin (by have := hC.2; omega)
    have ca : (nI a).toNatClampNeg = a := nI_clamp (by have := hC.2; omega)
    rw [ca] at eA
    have hLa := hla a (by have := hC.2; omega)
    by_cases hs : 1 ≤ x2 ∧ x2 ≤ 1000000
    · have hok : rwK h (nI a) x2 := ⟨hin, hs⟩
      have hs1 := Int32.le_iff_toInt_le.mp hs.1
      have hs2 := Int32.le_iff_toInt_le.mp hs.2
      obtain ⟨pre, fr, w2, b2, -⟩ := rwO_ok (s := x2) hI ha ⟨hs1, hs2⟩
      have hB := hS.ls.2
      have eO : guO h 8 (37 + 6 * a) x2 (sbSp h) = rwO h a x2 := rfl
      have fR : (rwO h a x2).2.2.2 = h.2.2 := fr.1
      refine mv_go hX 60 ?_
      simp only [mv_wps, mv_exq, mv_exr, mv_exn, mv_xg, mv_xpi, mv_xpl, mv_xpr, mv_xc, mv_xc2, mv_xs, mv_9z, mv_cqs, mv_calls, mv_lgz, mv_stz, mv_kz, mv_cz, mv_fvs, mv_ats, mv_ics, mv_rz, mv_tz, mv_cns, mv_nfs, mv_fins, mv_det, mv_cc, mv_c0, Nat.reduceAdd, Nat.reduceEqDiff, Nat.reduceLT, Nat.reduceLeDiff, Nat.reduceSub, reduceIte, decide_false, decide_true, Bool.false_eq_true, List.map_cons, List.map_nil, List.sum_cons, List.sum_nil, true_and, and_true, true_or, or_true, false_or, or_false, false_and, and_false, true_implies, false_implies, implies_true, not_true_eq_false, not_false_eq_true, lg_cmp_ge, lg_cmp_le, lg_cmp_gt, lg_cmp_lt, lg_cmp_eq, qX6_theta, flX6s, cIX6s, cLX6s, csX6_theta, sX6_theta, sX6_latticeAt, sX5_gatherUpTo, sX0_firstAbove, ms_aaia, ms_ai, ms_aii, ms_al, K1, hS, eA, p4, psp, hw, hw.1, hLa, hLa.1, hB, hB.1, pre, eO, fR, b2, b2.1, ca]
      refine ⟨fun z => absurd hs.1 (Int32.not_le.mpr z), fun _ => ⟨fun _ => ⟨⟨by omega, by omega⟩, fun z => ?_, fun z => ?_⟩, fun z => absurd hs.2 z⟩⟩
      · exact Or.inr ⟨hok, by rw [if_neg (Int32.not_lt.mpr z)]; rfl⟩
      · exact Or.inr ⟨hok, by rw [if_pos (Int32.not_le.mp z)]⟩
    · refine mv_go hX 60 ?_
      simp only [mv_wps, mv_exq, mv_exr, mv_exn, mv_xg, mv_xpi, mv_xpl, mv_xpr, mv_xc, mv_xc2, mv_xs, mv_9z, mv_cqs, mv_calls, mv_lgz, mv_stz, mv_kz, mv_cz, mv_fvs, mv_ats, mv_ics, mv_rz, mv_tz, mv_cns, mv_nfs, mv_fins, mv_det, mv_cc, mv_c0, Nat.reduceAdd, Nat.reduceEqDiff, Nat.reduceLT, Nat.reduceLeDiff, Nat.reduceSub, reduceIte, decide_false, decide_true, Bool.false_eq_true, List.map_cons, List.map_nil, List.sum_cons, List.sum_nil, true_and, and_true, true_or, or_true, false_or, or_false, false_and, and_false, true_implies, false_implies, implies_true, not_true_eq_false, not_false_eq_true, lg_cmp_ge, lg_cmp_le, lg_cmp_gt, lg_cmp_lt, lg_cmp_eq, qX6_theta, flX6s, cIX6s, cLX6s, csX6_theta, sX6_theta, sX6_latticeAt, sX5_gatherUpTo, sX0_firstAbove, ms_aaia, ms_ai, ms_aii, ms_al, K1, hS, eA]
      refine ⟨fun z => ?_, fun z => ⟨fun y => ?_, fun y => ?_⟩⟩
      · exact Or.inl (fun q => hs q.2)
      · exact absurd ⟨Int32.not_lt.mp z, y⟩ hs
      · exact Or.inl (fun q => hs q.2)
  · have eA : sbAt h x1 = .null := if_neg hin
    refine mv_go hX 60 ?_
    simp only [mv_wps, mv_exq, mv_exr, mv_exn, mv_xg, mv_xpi, mv_xpl, mv_xpr, mv_xc, mv_xc2, mv_xs, mv_9z, mv_cqs, mv_calls, mv_lgz, mv_stz, mv_kz, mv_cz, mv_fvs, mv_ats, mv_ics, mv_rz, mv_tz, mv_cns, mv_nfs, mv_fins, mv_det, mv_cc, mv_c0, Nat.reduceAdd, Nat.reduceEqDiff, Nat.reduceLT, Nat.reduceLeDiff, Nat.reduceSub, reduceIte, decide_false, decide_true, Bool.false_eq_true, List.map_cons, List.map_nil, List.sum_cons, List.sum_nil, true_and, and_true, true_or, or_true, false_or, or_false, false_and, and_false, true_implies, false_implies, implies_true, not_true_eq_false, not_false_eq_true, lg_cmp_ge, lg_cmp_le, lg_cmp_gt, lg_cmp_lt, lg_cmp_eq, qX6_theta, flX6s, cIX6s, cLX6s, csX6_theta, sX6_theta, sX6_latticeAt, sX5_gatherUpTo, sX0_firstAbove, ms_aaia, ms_ai, ms_aii, ms_al, K1, hS, eA]
    exact Or.inl (fun q => hin q.1)
