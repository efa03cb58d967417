/-! The bench: same, denser. -/
def saK (h : mv_M) (a b : Int32) : Prop := (inR (sbC h) a ∧ inR (sbC h) b) ∧ gn h (37 + 6 * a.toNatClampNeg + 1) = gn h (37 + 6 * b.toNatClampNeg + 1)
noncomputable def sX6_same (kd : List (Nat × Nat)) : mv_S := ms_aii (fun b _ _ h => b = 0 ∧ clI kd h) (fun _ a b h v h' => (¬ saK h a b ∧ v = some (.int (-1)) ∧ h' = h) ∨ (saK h a b ∧ v = some (.int (cwO h a.toNatClampNeg b.toNatClampNeg 1).1.toInt32) ∧ ((¬ 0 < (cwO h a.toNatClampNeg b.toNatClampNeg 1).1 ∧ h' = (cwO h a.toNatClampNeg b.toNatClampNeg 1).2) ∨ (0 < (cwO h a.toNatClampNeg b.toNatClampNeg 1).1 ∧ gRow 3 (gOpen (cwO h a.toNatClampNeg b.toNatClampNeg 1).2 3 ((cwO h a.toNatClampNeg b.toNatClampNeg 1).2.1 14 0)) h' (fun r c => r < ((cwO h a.toNatClampNeg b.toNatClampNeg 1).2.1 14 0).toNatClampNeg ∧ c < ((cwO h a.toNatClampNeg b.toNatClampNeg 1).2.1 14 0).toNatClampNeg) (fun r c => (huN (cwO h a.toNatClampNeg b.toNatClampNeg 1).2 14 ((cwO h a.toNatClampNeg b.toNatClampNeg 1).2.1 (14 + 7) r) (nI c)).toInt64)))))
theorem huC_ok {kd : List (Nat × Nat)} {h : mv_M} {u g o b : Nat} {first : Int32} (hu : huOk kd h u) (hg : gOk kd h g) (ho : gOk kd h o) (hb : boOk kd h b) (d : u + 1 ≠ g ∧ u + 3 ≠ g ∧ u + 1 ≠ o ∧ u + 3 ≠ o) : huOk kd (huR h u g o b first) u ∧ (huR h u g o b first).1 u 0 = h.1 o 0 := by
  obtain ⟨⟨k, r, g1, g2⟩, -, -, -, -, -, -, -, -, e0, -⟩ := huB_ok (first := first) hu hg ho hb d
  have kk : chK u (huC h u g o b first) (huR h u g o b first) := chF_chK u 4 0 _
  have c1 : ∀ a j, a ≠ u + 5 → a ≠ u + 6 → a ≠ u + 8 → (huC h u g o b first).1 a j = (huB h u g o first).1 a j := fun a j z5 z6 z8 => by
    simp [huC, fillI, z5, z6, z8]
  have cR : (huC h u g o b first).2.2 = (huB h u g o first).2.2 := rfl
  refine ⟨⟨k, by rw [kk.1, cR]; exact r, kk.gok (by omega) (by omega) (g1.keep (funext fun j => c1 _ j (by omega) (by omega) (by omega)) cR), kk.gok (by omega) (by omega) (g2.keep (funext fun j => c1 _ j (by omega) (by omega) (by omega)) cR)⟩, ?_⟩
  rw [kk.2.1 u 0 (by omega) (by omega), c1 u 0 (by omega) (by omega) (by omega)]
  exact e0
/-- what countWays leaves stands as it should -/
theorem cwO_I {kd : List (Nat × Nat)} {h : mv_M} {a d : Nat} {first : Int32} (hI : clI kd h) (ha : a < sbC h) (hd : d < sbC h) : clI kd (cwO h a d first).2 ∧ sbC (cwO h a d first).2 = sbC h ∧ sbSp (cwO h a d first).2 = sbSp h ∧ sbLs (cwO h a d first).2 = sbLs h ∧ (0 < (cwO h a d first).1 → (cwO h a d first).2.1 14 0 = h.1 (37 + 6 * d + 1) 0) := by
  have hs := (hI.2 d hd).gs
  have h20 : sbC h ≤ 20 := hI.1.1.2.2.2
  obtain ⟨-, fr, w2, b2, -⟩ := rwO_ok (s := laG h d) hI ha ⟨hs.2.1, by omega⟩
  obtain ⟨hI2, e2, e3, e4⟩ := hI.sw fr w2 b2
  have gd : (rwO h a (laG h d)).2.1 (37 + 6 * d + 1) = h.1 (37 + 6 * d + 1) := (fr.2 _ (by omega) (by have := sbSp_or h; omega)).1
  have hc := huC_ok (first := first) hI2.1.2.2.1.2.1 (hI2.1.2.2.2.2 a (by omega)).2.2.2.2.2.1 (hI2.1.2.2.2.2 d (by omega)).2.2.2.2.2.1 b2 (by omega)
  have hR := huR_fr (h := (rwO h a (laG h d)).2) (u := 14) (g := 37 + 6 * a + 1) (o := 37 + 6 * d + 1) (b := sbSp h) (first := first)
  have eR : huR (rwO h a (laG h d)).2 14 (37 + 6 * a + 1) (37 + 6 * d + 1) (sbSp h) first = cwR h a d first := rfl
  rw [eR] at hc hR
  obtain ⟨hI3, f2, f3, f4⟩ := hI2.hu hR ⟨hc.1.2.2.1, hc.1.2.2.2⟩
  have zero : (0 : Int64).toInt = 0 := by decide
  by_cases z : h.2.1 (37 + 6 * a) 3 = h.2.1 (37 + 6 * d) 3
  · by_cases y : (rwO h a (laG h d)).1 < 0
    · rw [cwO_1 z y]
      dsimp only
      exact ⟨hI2, e2, e3, e4, fun q => absurd q (by decide)⟩
    · rw [cwO_2 z y]
      dsimp only
      exact ⟨hI3, f2.trans e2, f3.trans e3, f4.trans e4, fun _ => by rw [hc.2, gd]⟩
  · rw [cwO_0 z]
    dsimp only
    exact ⟨hI, rfl, rfl, rfl, fun q => absurd q (by decide)⟩
noncomputable def csX6_same (kd : List (Nat × Nat)) : mv_CS := (mv_cc 103 6 1 (sX6_latticeAt kd) (mv_cc 139 3 0 (sX3_ways kd) (mv_cc 149 6 3 (sX6_countWays kd) (mv_cc 153 2 1 (sX2_tellWay kd) mv_c0))))
theorem oX6_same {l : Launch} {b : Nat} {ad : Nat → Nat} {D : va_G} {cA : Nat → ClassId} {kd : List (Nat × Nat)} (had : ∀ i, i < kd.length → ad i = b + i) : mv_Own l (mv_room 19) b ad D cA kd RX6 flX6 cIX6 cLX6 (csX6_same kd) := (mv_oV lRX6_103 zX6_latticeAt rfl (by decide) (ctX6_latticeAt had) ⟨by decide, by decide⟩ (mv_oV lRX6_139 zX3_ways rfl (by decide) (ctX3_ways had) ⟨by decide, by decide⟩ (mv_oV lRX6_149 zX6_countWays rfl (by decide) (ctX6_countWays had) ⟨by decide, by decide⟩ (mv_oV lRX6_153 zX2_tellWay rfl (by decide) (ctX2_tellWay had) ⟨by decide, by decide⟩ (mv_o0 flX6_ok cIX6_ok cLX6_ok)))))
set_option maxRecDepth 100000 in
set_option maxHeartbeats 4000000 in
theorem ctX6_same {l : Launch} {b : Nat} {ad : Nat → Nat} {D : va_G} {cA : Nat → ClassId} {kd : List (Nat × Nat)} (had : ∀ i, i < kd.length → ad i = b + i) : mv_Ct l b ad D cA kd yX6_same cX6_same 7 (some .int) 19 (sX6_same kd) := by
  refine mv_introF (rk := 1) tX6_same (mv_pf plRX6) kX6_same had ⟨(fun e => by cases e), (fun _ => rfl), (fun e => by cases e), (fun e => by cases e), (fun e => by cases e)⟩ (oX6_same had) ?_
  intro h as hp
  obtain ⟨x0, x1, x2, rfl, hq⟩ := ms_aii_inv hp
  refine ⟨Nat.le_of_ble_eq_true rfl, fun X hX => ?_⟩
  show X 0 [some (.ref x0), some (.int x1), some (.int x2), none, none, none, none] [] h
  obtain ⟨rfl, hI⟩ := hq
  have hS := hI.1
  obtain ⟨⟨⟨K1, K2⟩, ⟨⟨p0, p1, p2, p3, p4, p5, p6⟩, pls, psh⟩, hC⟩, ⟨g1, g3, g5⟩, ⟨hw, hu, hr⟩, ⟨b29, b33⟩, hla⟩ := id hS
  by_cases hin : inR (sbC h) x1
  · have eA : sbAt h x1 = .ref (37 + 6 * x1.toNatClampNeg) := if_pos hin
    obtain ⟨a, ha, rfl⟩ := inR_nat hin (by have := hC.2; omega)
    have ca : (nI a).toNatClampNeg = a := nI_clamp (by have := hC.2; omega)
    rw [ca] at eA
    have hLa := hla a (by have := hC.2; omega)
    have isa : isLa h (37 + 6 * a) := ⟨a, ha, rfl⟩
    by_cases hin2 : inR (sbC h) x2
    · have eB : sbAt h x2 = .ref (37 + 6 * x2.toNatClampNeg) := if_pos hin2
      obtain ⟨d, hdl, rfl⟩ := inR_nat hin2 (by have := hC.2; omega)
      have cd : (nI d).toNatClampNeg = d := nI_clamp (by have := hC.2; omega)
      rw [cd] at eB
      have hLd := hla d (by have := hC.2; omega)
      have isd : isLa h (37 + 6 * d) := ⟨d, hdl, rfl⟩
      have iff1 : (h.1 (37 + 6 * a + 1) 0 = h.1 (37 + 6 * d + 1) 0) ↔ gn h (37 + 6 * a + 1) = gn h (37 + 6 * d + 1) := by
        refine ⟨fun z => congrArg Int32.toNatClampNeg z, fun z => ?_⟩
        rw [hLa.2.2.2.2.2.1.2.2.2.1, hLd.2.2.2.2.2.1.2.2.2.1, z]
      have h11 : (1 : Int32) = 0 ∨ (1 : Int32) = 1 := Or.inr rfl
      obtain ⟨hI2, c2, c3, c4, c5⟩ := cwO_I (first := 1) hI ha hdl
      have hR := cwO_R (first := 1) hI ha hdl
      generalize hW : cwO h a d 1 = W at *
      have hu2 := hI2.1.2.2.1.2.1
      have g32 := hI2.1.2.1.2.1
      refine mv_go hX 80 ?_
      simp only [mv_wps, mv_exq, mv_exr, mv_exn, mv_xg, mv_xpi, mv_xpl, mv_xpr, mv_xc, mv_xc2, mv_xs, mv_9z, mv_cqs, mv_calls, mv_lgz, mv_stz, mv_kz, mv_cz, mv_fvs, mv_ats, mv_ics, mv_rz, mv_tz, mv_cns, mv_nfs, mv_fins, mv_det, mv_cc, mv_c0, Nat.reduceAdd, Nat.reduceEqDiff, Nat.reduceLT, Nat.reduceLeDiff, Nat.reduceSub, reduceIte, decide_false, decide_true, Bool.false_eq_true, List.map_cons, List.map_nil, List.sum_cons, List.sum_nil, true_and, and_true, true_or, or_true, false_or, or_false, false_and, and_false, true_implies, false_implies, implies_true, not_true_eq_false, not_false_eq_true, lg_cmp_ge, lg_cmp_le, lg_cmp_gt, lg_cmp_lt, lg_cmp_eq, qX6_same, flX6s, cIX6s, cLX6s, csX6_same, sX6_same, sX6_latticeAt, sX3_ways, sX6_countWays, sX2_tellWay, ms_a, ms_aa, ms_aaai, ms_ai, ms_aii, K1, hS, hI, eA, eB, hLa, hLa.1, hLd, hLd.1, isa, isd, h11, ca, cd, nLa_37, hW, iff1, p5, p1, hR, hu2, hu2.1.1, g32, g32.1]
      refine ⟨fun z => ?_, fun z => ?_⟩
      · have hok : saK h (nI a) (nI d) := ⟨⟨hin, hin2⟩, by rw [ca, cd]; exact z⟩
        refine ⟨fun y => ?_, fun y => ?_⟩
        · exact Or.inr ⟨hok, Or.inl (Int64.not_lt.mpr y)⟩
        · have y' : 0 < W.1 := Int64.not_le.mp y
          have e0 := c5 y'
          have n5 : isN (W.2.1 14 0) 5 := by
            rw [e0, hLd.2.2.2.2.2.1.2.2.2.1]
            exact isN.nI (by have := hLd.2.2.2.2.2.1.2.2.2.2; omega) (by omega)
          refine ⟨⟨n5, by omega, by omega⟩, ?_⟩
          rintro v h' ⟨rfl, hrow⟩
          simp only [mv_wps, mv_exq, mv_exr, mv_exn, mv_xg, mv_xpi, mv_xpl, mv_xpr, mv_xc, mv_xc2, mv_xs, mv_9z, mv_cqs, mv_calls, mv_lgz, mv_stz, mv_kz, mv_cz, mv_fvs, mv_ats, mv_ics, mv_rz, mv_tz, mv_cns, mv_nfs, mv_fins, mv_det, mv_cc, mv_c0, Nat.reduceAdd, Nat.reduceEqDiff, Nat.reduceLT, Nat.reduceLeDiff, Nat.reduceSub, reduceIte, decide_false, decide_true, Bool.false_eq_true, List.map_cons, List.map_nil, List.sum_cons, List.sum_nil, true_and, and_true, true_or, or_true, false_or, or_false, false_and, and_false, true_implies, false_implies, implies_true, not_true_eq_false, not_false_eq_true, lg_cmp_ge, lg_cmp_le, lg_cmp_gt, lg_cmp_lt, lg_cmp_eq, qX6_same, flX6s, cIX6s, cLX6s, csX6_same, sX6_same, sX6_latticeAt, sX3_ways, sX6_countWays, sX2_tellWay, ms_a, ms_aa, ms_aaai, ms_ai, ms_aii, ca, cd, hW]
          exact Or.inr ⟨hok, Or.inr ⟨y', hrow⟩⟩
      · exact Or.inl (fun q => z (by have := q.2; rw [ca, cd] at this; exact this))
    · have eB : sbAt h x2 = .null := if_neg hin2
      refine mv_go hX 60 ?_
      simp only [mv_wps, mv_exq, mv_exr, mv_exn, mv_xg, mv_xpi, mv_xpl, mv_xpr, mv_xc, mv_xc2, mv_xs, mv_9z, mv_cqs, mv_calls, mv_lgz, mv_stz, mv_kz, mv_cz, mv_fvs, mv_ats, mv_ics, mv_rz, mv_tz, mv_cns, mv_nfs, mv_fins, mv_det, mv_cc, mv_c0, Nat.reduceAdd, Nat.reduceEqDiff, Nat.reduceLT, Nat.reduceLeDiff, Nat.reduceSub, reduceIte, decide_false, decide_true, Bool.false_eq_true, List.map_cons, List.map_nil, List.sum_cons, List.sum_nil, true_and, and_true, true_or, or_true, false_or, or_false, false_and, and_false, true_implies, false_implies, implies_true, not_true_eq_false, not_false_eq_true, lg_cmp_ge, lg_cmp_le, lg_cmp_gt, lg_cmp_lt, lg_cmp_eq, qX6_same, flX6s, cIX6s, cLX6s, csX6_same, sX6_same, sX6_latticeAt, sX3_ways, sX6_countWays, sX2_tellWay, ms_a, ms_aa, ms_aaai, ms_ai, ms_aii, K1, hS, eA, eB]
      exact Or.inl (fun q => hin2 q.1.2)
  · have eA : sbAt h x1 = .null := if_neg hin
    have eB : sbAt h x2 = .null ∨ ∃ r, sbAt h x2 = .ref r := by
      unfold sbAt
      split
      · exact Or.inr ⟨_, rfl⟩
      · exact Or.inl rfl
    rcases eB with eB | ⟨r, eB⟩
    · refine mv_go hX 60 ?_
      simp only [mv_wps, mv_exq, mv_exr, mv_exn, mv_xg, mv_xpi, mv_xpl, mv_xpr, mv_xc, mv_xc2, mv_xs, mv_9z, mv_cqs, mv_calls, mv_lgz, mv_stz, mv_kz, mv_cz, mv_fvs, mv_ats, mv_ics, mv_rz, mv_tz, mv_cns, mv_nfs, mv_fins, mv_det, mv_cc, mv_c0, Nat.reduceAdd, Nat.reduceEqDiff, Nat.reduceLT, Nat.reduceLeDiff, Nat.reduceSub, reduceIte, decide_false, decide_true, Bool.false_eq_true, List.map_cons, List.map_nil, List.sum_cons, List.sum_nil, true_and, and_true, true_or, or_true, false_or, or_false, false_and, and_false, true_implies, false_implies, implies_true, not_true_eq_false, not_false_eq_true, lg_cmp_ge, lg_cmp_le, lg_cmp_gt, lg_cmp_lt, lg_cmp_eq, qX6_same, flX6s, cIX6s, cLX6s, csX6_same, sX6_same, sX6_latticeAt, sX3_ways, sX6_countWays, sX2_tellWay, ms_a, ms_aa, ms_aaai, ms_ai, ms_aii, K1, hS, eA, eB]
      exact Or.inl (fun q => hin q.1.1)
    · refine mv_go hX 60 ?_
      simp only [mv_wps, mv_exq, mv_exr, mv_exn, mv_xg, mv_xpi, mv_xpl, mv_xpr, mv_xc, mv_xc2, mv_xs, mv_9z, mv_cqs, mv_calls, mv_lgz, mv_stz, mv_kz, mv_cz, mv_fvs, mv_ats, mv_ics, mv_rz, mv_tz, mv_cns, mv_nfs, mv_fins, mv_det, mv_cc, mv_c0, Nat.reduceAdd, Nat.reduceEqDiff, Nat.reduceLT, Nat.reduceLeDiff, Nat.reduceSub, reduceIte, decide_false, decide_true, Bool.false_eq_true, List.map_cons, List.map_nil, List.sum_cons, List.sum_nil, true_and, and_true, true_or, or_true, false_or, or_false, false_and, and_false, true_implies, false_implies, implies_true, not_true_eq_false, not_false_eq_true, lg_cmp_ge, lg_cmp_le, lg_cmp_gt, lg_cmp_lt, lg_cmp_eq, qX6_same, flX6s, cIX6s, cLX6s, csX6_same, sX6_same, sX6_latticeAt, sX3_ways, sX6_countWays, sX2_tellWay, ms_a, ms_aa, ms_aaai, ms_ai, ms_aii, K1, hS, eA, eB]
      exact Or.inl (fun q => hin q.1.1)
