/-! The bench's nearest. -/
def nkOK (h : mv_M) (l q p0 p1 p2 p3 : Int32) : Prop := inR (sbC h) l ∧ (1 ≤ q ∧ q ≤ 60) ∧ swNear (swAim h 8 p0 p1 p2 p3) 8 (gn h (37 + 6 * l.toNatClampNeg + 1))
def nkO (h : mv_M) (l : Nat) (q p0 p1 p2 p3 : Int32) : Int32 × mv_M := gnO (swAim h 8 p0 p1 p2 p3) 8 (37 + 6 * l) q (sbSp h)
theorem clL.same {h h' : mv_M} {a : Nat} (z : clL h a) (e1 : h'.1 (a + 1) = h.1 (a + 1)) (e2 : h'.2.1 (a + 2) = h.2.1 (a + 2)) (e3 : h'.1 (a + 3) = h.1 (a + 3)) (e4 : h'.2.1 (a + 4) = h.2.1 (a + 4)) (e5 : h'.2.1 a = h.2.1 a) : clL h' a := by
  have g : gn h' (a + 1) = gn h (a + 1) := by unfold gn; rw [e1]
  have m : gM h' (a + 1) = gM h (a + 1) := gM_same e2
  have m3 : gM h' (a + 3) = gM h (a + 3) := gM_same e4
  unfold clL
  rw [g, m, m3]
  exact ⟨z.1, z.2.1.same e1 e2 e3 e4 e5, z.2.2⟩
theorem swAim_ne {h : mv_M} {w o : Nat} {a b c d : Int32} (ho : o ≠ w + 3) : (swAim h w a b c d).2.1 o = h.2.1 o := by
  unfold swAim
  rw [mv_sl_ne ho, mv_sl_ne ho, mv_sl_ne ho, mv_sl_ne ho]
theorem sbOk.same {kd : List (Nat × Nat)} {h h' : mv_M} (h1 : h'.1 = h.1) (h2 : h'.2.2 = h.2.2) (z : sbOk kd h) : sbOk kd h' := by
  obtain ⟨⟨a1, a2, a3⟩, ⟨b1, b2, b3⟩, ⟨c1, c2, c3⟩, ⟨d1, d2⟩, e⟩ := z
  have eC : sbC h' = sbC h := by unfold sbC; rw [h1]
  obtain ⟨u1, u2, u3, u4⟩ := c2
  refine ⟨⟨a1, a2.same h2, by rw [h1, eC]; exact a3⟩, ⟨b1.same h1 h2, b2.same h1 h2, b3.same h1 h2⟩, ⟨c1.same h1 h2, ⟨u1, by rw [h2]; exact u2, u3.same h1 h2, u4.same h1 h2⟩, c3.same h2⟩, ⟨d1.same h1 h2, d2.same h1 h2⟩, fun l hl => (e l hl).same h1 h2⟩
theorem aim_clI {kd : List (Nat × Nat)} {h : mv_M} {a b c d : Int32} (z : clI kd h) : clI kd (swAim h 8 a b c d) := by
  refine ⟨z.1.same rfl rfl, fun l hl => (z.2 l hl).same rfl (swAim_ne (by omega)) rfl (swAim_ne (by omega)) (swAim_ne (by omega))⟩
theorem aim_near {h : mv_M} {n : Nat} (hz : swNear h 8 n) : ∀ k, k < n → (h.2.1 (8 + 3) k).toInt = aZ (h.2.1 11) k ∧ bd (aZ (h.2.1 11) k) 6000 := fun k hk => by
  obtain ⟨z1, z2⟩ := hz k hk
  have e1 : (-6000 : Int64).toInt = -6000 := by decide
  have e2 : (6000 : Int64).toInt = 6000 := by decide
  rw [i64_lt, e1] at z1
  rw [i64_le, e2] at z2
  refine ⟨rfl, ?_⟩
  show bd (h.2.1 11 k).toInt 6000
  unfold bd
  have : (h.2.1 (8 + 3) k).toInt = (h.2.1 11 k).toInt := rfl
  omega
/-- what was found nearest -/
def nkM (n : Nat) (F : Nat → Nat → Int64) (q : Int) (p : Nat → Int) (b : Nat) (O : Int32 × mv_M) : Prop := ∃ R, bxR (lT F) n (nGs (lT F) n q p) R ∧
      ((O.1 = -2 ∧ 300000 < prZ (nsp q p R) n) ∨
       (prZ (nsp q p R) n ≤ 300000 ∧ ∃ B, (∀ v, 0 ≤ v → v < prZ (nsp q p R) n → B ≤ nqF (lT F) n q p R v) ∧
        ((O.1 = -2 ∧ ∃ g : Nat → Int, (∀ i, i ≤ 100 → (0 ≤ g i ∧ g i < prZ (nsp q p R) n) ∧ nqF (lT F) n q p R (g i) = B) ∧ ∀ i j, i < j → j ≤ 100 → g i ≠ g j) ∨
         ∃ (c : Nat) (P : Nat → Int), 0 < c ∧ c ≤ 100 ∧ O.1 = nI c ∧ isNr (nqF (lT F) n q p R) (prZ (nsp q p R) n) c P B ∧ bkL O.2 b n (nlo q p R) (nsp q p R) (nqF (lT F) n q p R) c P)))
theorem nkO_ok {kd : List (Nat × Nat)} {h : mv_M} {l : Nat} {q p0 p1 p2 p3 : Int32} (hI : clI kd h) (hl : l < sbC h) (hq : 1 ≤ q.toInt ∧ q.toInt ≤ 60) (hz : swNear (swAim h 8 p0 p1 p2 p3) 8 (gn h (37 + 6 * l + 1))) : gnPre (swAim h 8 p0 p1 p2 p3) 8 (37 + 6 * l) q (sbSp h) ∧ swFr 8 (sbSp h) h (nkO h l q p0 p1 p2 p3).2 ∧ swOk kd (nkO h l q p0 p1 p2 p3).2 8 ∧ boOk kd (nkO h l q p0 p1 p2 p3).2 (sbSp h) ∧ nkM (gn h (37 + 6 * l + 1)) (gM h (37 + 6 * l + 1)) q.toInt (aZ ((swAim h 8 p0 p1 p2 p3).2.1 11)) (sbSp h) (nkO h l q p0 p1 p2 p3) := by
  have hI2 := aim_clI (a := p0) (b := p1) (c := p2) (d := p3) hI
  have eg : gM (swAim h 8 p0 p1 p2 p3) (37 + 6 * l + 1) = gM h (37 + 6 * l + 1) := gM_same (swAim_ne (by omega))
  have en : gn (swAim h 8 p0 p1 p2 p3) (37 + 6 * l + 1) = gn h (37 + 6 * l + 1) := rfl
  have h1 := hI2.2 l hl
  have eg3 : gM (swAim h 8 p0 p1 p2 p3) (37 + 6 * l + 3) = gM h (37 + 6 * l + 3) := gM_same (swAim_ne (by omega))
  unfold clL at h1
  rw [eg, en, eg3] at h1
  have hsp : sbSp (swAim h 8 p0 p1 p2 p3) = sbSp h := rfl
  have hbo := hI2.1.ls.2
  rw [hsp] at hbo
  obtain ⟨a1, a2, a3, a4, a5⟩ := gnO_spec (w := 8) (qq := q) (b := sbSp h) hI2.1.2.2.1.1 (hI2.1.2.2.2.2 l (by have := hI.1.1.2.2.2; omega)) hbo h1.1 h1.2.1 hq (aim_near hz) (by have := sbSp_or h; omega) (by omega) (by have := sbSp_or h; omega)
  refine ⟨a1, ?_, a3, a4, a5⟩
  have fr : swFr 8 (sbSp h) h (swAim h 8 p0 p1 p2 p3) := ⟨rfl, fun o z1 z2 => ⟨rfl, swAim_ne (by omega)⟩⟩
  exact fr.tr a2
def nkN (h : mv_M) (l q p0 p1 p2 p3 : Int32) : mv_M := if inR (sbC h) l ∧ 1 ≤ q ∧ q ≤ 60 then swAim h 8 p0 p1 p2 p3 else h
def sX6_nearest (kd : List (Nat × Nat)) : mv_S := ms_aiiiiii (fun b _ _ _ _ _ _ h => b = 0 ∧ clI kd h) (fun _ l q p0 p1 p2 p3 h v h' => (¬ nkOK h l q p0 p1 p2 p3 ∧ v = some (.int (-1)) ∧ h' = nkN h l q p0 p1 p2 p3) ∨ (nkOK h l q p0 p1 p2 p3 ∧ v = some (.int (nkO h l.toNatClampNeg q p0 p1 p2 p3).1) ∧ h' = if (nkO h l.toNatClampNeg q p0 p1 p2 p3).1 < 0 then (nkO h l.toNatClampNeg q p0 p1 p2 p3).2 else sbSwap (nkO h l.toNatClampNeg q p0 p1 p2 p3).2))
noncomputable def csX6_nearest (kd : List (Nat × Nat)) : mv_CS := (mv_cc 103 6 1 (sX6_latticeAt kd) (mv_cc 195 5 4 (sX5_aimAt kd) (mv_cc 139 3 0 (sX3_ways kd) (mv_cc 199 5 1 (sX5_aimIsNear kd) (mv_cc 203 5 3 (sX5_gatherNearest kd) (mv_cc 122 6 1 (sX6_showSpare kd) mv_c0))))))
theorem oX6_nearest {l : Launch} {b : Nat} {ad : Nat → Nat} {D : va_G} {cA : Nat → ClassId} {kd : List (Nat × Nat)} (had : ∀ i, i < kd.length → ad i = b + i) : mv_Own l (mv_room 5) b ad D cA kd RX6 flX6 cIX6 cLX6 (csX6_nearest kd) := (mv_oV lRX6_103 zX6_latticeAt rfl (by decide) (ctX6_latticeAt had) ⟨by decide, by decide⟩ (mv_oV lRX6_195 zX5_aimAt rfl (by decide) (ctX5_aimAt had) ⟨by decide, by decide⟩ (mv_oV lRX6_139 zX3_ways rfl (by decide) (ctX3_ways had) ⟨by decide, by decide⟩ (mv_oV lRX6_199 zX5_aimIsNear rfl (by decide) (ctX5_aimIsNear had) ⟨by decide, by decide⟩ (mv_oV lRX6_203 zX5_gatherNearest rfl (by decide) (ctX5_gatherNearest had) ⟨by decide, by decide⟩ (mv_oV lRX6_122 zX6_showSpare rfl (by decide) (ctX6_showSpare had) ⟨by decide, by decide⟩ (mv_o0 flX6_ok cIX6_ok cLX6_ok)))))))
set_option maxRecDepth 100000 in
set_option maxHeartbeats 4000000 in
theorem ctX6_nearest {l : Launch} {b : Nat} {ad : Nat → Nat} {D : va_G} {cA : Nat → ClassId} {kd : List (Nat × Nat)} (had : ∀ i, i < kd.length → ad i = b + i) : mv_Ct l b ad D cA kd yX6_nearest cX6_nearest 8 (some .int) 5 (sX6_nearest kd) := by
  refine mv_introF (rk := 1) tX6_nearest (mv_pf plRX6) kX6_nearest had ⟨(fun e => by cases e), (fun _ => rfl), (fun e => by cases e), (fun e => by cases e), (fun e => by cases e)⟩ (oX6_nearest had) ?_
  intro h as hp
  obtain ⟨x0, x1, x2, x3, x4, x5, x6, rfl, hq⟩ := ms_aiiiiii_inv hp
  refine ⟨Nat.le_of_ble_eq_true rfl, fun X hX => ?_⟩
  show X 0 [some (.ref x0), some (.int x1), some (.int x2), some (.int x3), some (.int x4), some (.int x5), some (.int x6), none] [] h
  obtain ⟨rfl, hI⟩ := hq
  have hS := hI.1
  obtain ⟨⟨⟨K1, K2⟩, ⟨⟨p0, p1, p2, p3, p4, p5, p6⟩, pls, psh⟩, hC⟩, ⟨g1, g3, g5⟩, ⟨hw, hu, hr⟩, ⟨b29, b33⟩, hla⟩ := id hS
  obtain ⟨pl, psp⟩ := sbLs_eq hS.1.2.1
  by_cases hin : inR (sbC h) x1 ∧ 1 ≤ x2 ∧ x2 ≤ 60
  · obtain ⟨hin, hs⟩ := hin
    have hN : nkN h x1 x2 x3 x4 x5 x6 = swAim h 8 x3 x4 x5 x6 := if_pos ⟨hin, hs⟩
    have eA : sbAt h x1 = .ref (37 + 6 * x1.toNatClampNeg) := if_pos hin
    obtain ⟨a, ha, rfl⟩ := inR_nat hin (by have := hC.2; omega)
    have ca : (nI a).toNatClampNeg = a := nI_clamp (by have := hC.2; omega)
    rw [ca] at eA
    have hLa := hla a (by have := hC.2; omega)
    have hs1 := Int32.le_iff_toInt_le.mp hs.1
    have hs2 := Int32.le_iff_toInt_le.mp hs.2
    have hI2 := aim_clI (a := x3) (b := x4) (c := x5) (d := x6) hI
    have hS2 := hI2.1
    have hw2 := hS2.2.2.1.1
    have hLa2 := hS2.2.2.2.2 a (by have := hC.2; omega)
    have hB2 := hS2.ls.2
    have hsp : sbSp (swAim h 8 x3 x4 x5 x6) = sbSp h := rfl
    rw [hsp] at hB2
    have aR := swAim_R h 8 x3 x4 x5 x6
    have gnE : h.1 (37 + 6 * a + 1) 0 = nI (gn h (37 + 6 * a + 1)) := hLa.2.2.2.2.2.1.2.2.2.1
    have gn5 : isN (nI (gn h (37 + 6 * a + 1))) 5 := isN.nI (by have := hLa.2.2.2.2.2.1.2.2.2.2; omega) (by omega)
    have gnC : (nI (gn h (37 + 6 * a + 1))).toNatClampNeg = gn h (37 + 6 * a + 1) := nI_clamp (by have := hLa.2.2.2.2.2.1.2.2.2.2; omega)
    by_cases hz : swNear (swAim h 8 x3 x4 x5 x6) 8 (gn h (37 + 6 * a + 1))
    · have hok : nkOK h (nI a) x2 x3 x4 x5 x6 := ⟨hin, hs, by rw [ca]; exact hz⟩
      obtain ⟨pre, fr, w2, b2, -⟩ := nkO_ok (q := x2) hI ha ⟨hs1, hs2⟩ hz
      have eO : gnO (swAim h 8 x3 x4 x5 x6) 8 (37 + 6 * a) x2 (sbSp h) = nkO h a x2 x3 x4 x5 x6 := rfl
      have hR2 := sbR.same fr.1 hS.1.2.1
      have hb : ¬ b01 (swNear (swAim h 8 x3 x4 x5 x6) 8 (gn h (37 + 6 * a + 1))) = 0 := by rw [b01_t hz]; decide
      refine mv_go hX 80 ?_
      simp only [mv_wps, mv_exq, mv_exr, mv_exn, mv_xg, mv_xpi, mv_xpl, mv_xpr, mv_xc, mv_xc2, mv_xs, mv_9z, mv_cqs, mv_calls, mv_lgz, mv_stz, mv_kz, mv_cz, mv_fvs, mv_ats, mv_ics, mv_rz, mv_tz, mv_cns, mv_nfs, mv_fins, mv_det, mv_cc, mv_c0, Nat.reduceAdd, Nat.reduceEqDiff, Nat.reduceLT, Nat.reduceLeDiff, Nat.reduceSub, reduceIte, decide_false, decide_true, Bool.false_eq_true, List.map_cons, List.map_nil, List.sum_cons, List.sum_nil, true_and, and_true, true_or, or_true, false_or, or_false, false_and, and_false, true_implies, false_implies, implies_true, not_true_eq_false, not_false_eq_true, lg_cmp_ge, lg_cmp_le, lg_cmp_gt, lg_cmp_lt, lg_cmp_eq, qX6_nearest, flX6s, cIX6s, cLX6s, csX6_nearest, sX6_nearest, sX6_latticeAt, sX5_aimAt, sX3_ways, sX5_aimIsNear, sX5_gatherNearest, sX6_showSpare, ms_a, ms_aaia, ms_ai, ms_aiiii, ms_aiiiiii, K1, hS, eA, p4, psp, hw, hw.1, hw2, aR, hLa2, hLa.1, gnE, gn5, gnC, hB2, hB2.1, pre, eO, hR2, hS.1.1, ca]
      exact ⟨fun z => absurd hs.1 (Int32.not_le.mpr z), fun _ => ⟨fun _ => ⟨fun _ => ⟨⟨by omega, by omega⟩, Or.inr hok⟩, fun z => absurd hb z⟩, fun z => absurd hs.2 z⟩⟩
    · have hno : ¬ nkOK h (nI a) x2 x3 x4 x5 x6 := fun q => hz (by have := q.2.2; rw [ca] at this; exact this)
      have hb : b01 (swNear (swAim h 8 x3 x4 x5 x6) 8 (gn h (37 + 6 * a + 1))) = 0 := b01_f hz
      refine mv_go hX 80 ?_
      simp only [mv_wps, mv_exq, mv_exr, mv_exn, mv_xg, mv_xpi, mv_xpl, mv_xpr, mv_xc, mv_xc2, mv_xs, mv_9z, mv_cqs, mv_calls, mv_lgz, mv_stz, mv_kz, mv_cz, mv_fvs, mv_ats, mv_ics, mv_rz, mv_tz, mv_cns, mv_nfs, mv_fins, mv_det, mv_cc, mv_c0, Nat.reduceAdd, Nat.reduceEqDiff, Nat.reduceLT, Nat.reduceLeDiff, Nat.reduceSub, reduceIte, decide_false, decide_true, Bool.false_eq_true, List.map_cons, List.map_nil, List.sum_cons, List.sum_nil, true_and, and_true, true_or, or_true, false_or, or_false, false_and, and_false, true_implies, false_implies, implies_true, not_true_eq_false, not_false_eq_true, lg_cmp_ge, lg_cmp_le, lg_cmp_gt, lg_cmp_lt, lg_cmp_eq, qX6_nearest, flX6s, cIX6s, cLX6s, csX6_nearest, sX6_nearest, sX6_latticeAt, sX5_aimAt, sX3_ways, sX5_aimIsNear, sX5_gatherNearest, sX6_showSpare, ms_a, ms_aaia, ms_ai, ms_aiiii, ms_aiiiiii, K1, hS, eA, p4, psp, hw, hw.1, hw2, aR, hLa2, hLa.1, gnE, gn5, gnC, hb, ca]
      exact ⟨fun z => absurd hs.1 (Int32.not_le.mpr z), fun _ => ⟨fun _ => Or.inl ⟨hno, hN.symm⟩, fun z => absurd hs.2 z⟩⟩
  · have hN : nkN h x1 x2 x3 x4 x5 x6 = h := if_neg hin
    have hno : ¬ nkOK h x1 x2 x3 x4 x5 x6 := fun q => hin ⟨q.1, q.2.1⟩
    by_cases hin1 : inR (sbC h) x1
    · have eA : sbAt h x1 = .ref (37 + 6 * x1.toNatClampNeg) := if_pos hin1
      refine mv_go hX 16 ?_
      simp only [mv_wps, mv_exq, mv_exr, mv_exn, mv_xg, mv_xpi, mv_xpl, mv_xpr, mv_xc, mv_xc2, mv_xs, mv_9z, mv_cqs, mv_calls, mv_lgz, mv_stz, mv_kz, mv_cz, mv_fvs, mv_ats, mv_ics, mv_rz, mv_tz, mv_cns, mv_nfs, mv_fins, mv_det, mv_cc, mv_c0, Nat.reduceAdd, Nat.reduceEqDiff, Nat.reduceLT, Nat.reduceLeDiff, Nat.reduceSub, reduceIte, decide_false, decide_true, Bool.false_eq_true, List.map_cons, List.map_nil, List.sum_cons, List.sum_nil, true_and, and_true, true_or, or_true, false_or, or_false, false_and, and_false, true_implies, false_implies, implies_true, not_true_eq_false, not_false_eq_true, lg_cmp_ge, lg_cmp_le, lg_cmp_gt, lg_cmp_lt, lg_cmp_eq, qX6_nearest, flX6s, cIX6s, cLX6s, csX6_nearest, sX6_nearest, sX6_latticeAt, sX5_aimAt, sX3_ways, sX5_aimIsNear, sX5_gatherNearest, sX6_showSpare, ms_a, ms_aaia, ms_ai, ms_aiiii, ms_aiiiiii, K1, hS, eA]
      exact ⟨fun _ => Or.inl ⟨hno, hN.symm⟩, fun z => ⟨fun y => absurd ⟨hin1, Int32.not_lt.mp z, y⟩ hin, fun _ => Or.inl ⟨hno, hN.symm⟩⟩⟩
    · have eA : sbAt h x1 = .null := if_neg hin1
      refine mv_go hX 60 ?_
      simp only [mv_wps, mv_exq, mv_exr, mv_exn, mv_xg, mv_xpi, mv_xpl, mv_xpr, mv_xc, mv_xc2, mv_xs, mv_9z, mv_cqs, mv_calls, mv_lgz, mv_stz, mv_kz, mv_cz, mv_fvs, mv_ats, mv_ics, mv_rz, mv_tz, mv_cns, mv_nfs, mv_fins, mv_det, mv_cc, mv_c0, Nat.reduceAdd, Nat.reduceEqDiff, Nat.reduceLT, Nat.reduceLeDiff, Nat.reduceSub, reduceIte, decide_false, decide_true, Bool.false_eq_true, List.map_cons, List.map_nil, List.sum_cons, List.sum_nil, true_and, and_true, true_or, or_true, false_or, or_false, false_and, and_false, true_implies, false_implies, implies_true, not_true_eq_false, not_false_eq_true, lg_cmp_ge, lg_cmp_le, lg_cmp_gt, lg_cmp_lt, lg_cmp_eq, qX6_nearest, flX6s, cIX6s, cLX6s, csX6_nearest, sX6_nearest, sX6_latticeAt, sX5_aimAt, sX3_ways, sX5_aimIsNear, sX5_gatherNearest, sX6_showSpare, ms_a, ms_aaia, ms_ai, ms_aiiii, ms_aiiiiii, K1, hS, eA]
      exact Or.inl ⟨hno, hN.symm⟩
