/-! The bench: facts. -/
def laS (h : mv_M) (l : Nat) : Int32 := (lsF (gM h (37 + 6 * l + 1)) (gn h (37 + 6 * l + 1) - 1)).toInt32
def laG (h : mv_M) (l : Nat) : Int32 := (gsF (gM h (37 + 6 * l + 1)) (gn h (37 + 6 * l + 1))).toInt32
theorem clL.ls {h : mv_M} {l : Nat} (z : clL h (37 + 6 * l)) : (laS h l).toInt = (lsF (gM h (37 + 6 * l + 1)) (gn h (37 + 6 * l + 1) - 1)).toInt ∧ 1 ≤ (laS h l).toInt ∧ (laS h l).toInt ≤ 999 := by
  have := z.1.ls
  have e : (laS h l).toInt = (lsF (gM h (37 + 6 * l + 1)) (gn h (37 + 6 * l + 1) - 1)).toInt := i64_i32 (by unfold bd; omega)
  rw [e]
  exact ⟨rfl, this⟩
theorem clL.gs {h : mv_M} {l : Nat} (z : clL h (37 + 6 * l)) : (laG h l).toInt = (gsF (gM h (37 + 6 * l + 1)) (gn h (37 + 6 * l + 1))).toInt ∧ 1 ≤ (laG h l).toInt ∧ (laG h l).toInt ≤ 999 := by
  have := z.1.gs
  have e : (laG h l).toInt = (gsF (gM h (37 + 6 * l + 1)) (gn h (37 + 6 * l + 1))).toInt := i64_i32 (by unfold bd; omega)
  rw [e]
  exact ⟨rfl, this⟩
theorem clL.diag {h : mv_M} {l i : Nat} (z : clL h (37 + 6 * l)) (hi : i < gn h (37 + 6 * l + 1)) : gE h (37 + 6 * l + 1) i i = gM h (37 + 6 * l + 1) i i := by
  have := z.1.1.2
  rw [gM_in (by omega) (by omega)]
theorem clL.ls2 {h : mv_M} {l : Nat} (z : clL h (37 + 6 * l)) : (foldL jMinL (fun i => gE h (37 + 6 * l + 1) i i) (gn h (37 + 6 * l + 1) - 1)).toInt32 = laS h l := by
  have := z.1.1
  unfold laS
  rw [← foldL_ls, foldL_congr (g := fun i => gM h (37 + 6 * l + 1) i i) _ (fun i hi => z.diag (by omega))]
theorem clL.gs2 {h : mv_M} {l : Nat} (z : clL h (37 + 6 * l)) : (foldL jMaxL (fun i => gE h (37 + 6 * l + 1) i i) (gn h (37 + 6 * l + 1) - 1)).toInt32 = laG h l := by
  have hn := z.1.1
  unfold laG
  have := foldL_gs (F := gM h (37 + 6 * l + 1)) (gn h (37 + 6 * l + 1) - 1) (fun i hi => z.1.2.2.diag (i := i) (by omega))
  rw [show gn h (37 + 6 * l + 1) - 1 + 1 = gn h (37 + 6 * l + 1) by omega] at this
  rw [← this, foldL_congr (g := fun i => gM h (37 + 6 * l + 1) i i) _ (fun i hi => z.diag (by omega))]
def lsMn (M : mv_M) (b : Nat) : Int64 := if inR (bc M b) 0 then szOf (M.2.1 (b + 3) 0) else 0
def lsR (M : mv_M) (b : Nat) : mv_M := ifO M 25 b (huFa M b (lsMn M b)).toNatClampNeg
def lsO (h : mv_M) (l : Nat) : mv_M := if (rwO h l (laS h l)).1 < 1 then laSteps (rwO h l (laS h l)).2 (37 + 6 * l) (-2) (-2) (-2) else laSteps (lsR (rwO h l (laS h l)).2 (sbSp h)) (37 + 6 * l) (lsMn (rwO h l (laS h l)).2 (sbSp h)) (huFa (rwO h l (laS h l)).2 (sbSp h) (lsMn (rwO h l (laS h l)).2 (sbSp h))).toInt64 (if (lsR (rwO h l (laS h l)).2 (sbSp h)).1 25 1 = (lsR (rwO h l (laS h l)).2 (sbSp h)).1 25 0 then 1 else 0)
def isLa (h : mv_M) (a : Nat) : Prop := ∃ l, l < sbC h ∧ a = 37 + 6 * l
def nLa (a : Nat) : Nat := (a - 37) / 6
theorem nLa_37 (l : Nat) : nLa (37 + 6 * l) = l := by unfold nLa; omega
theorem huFa_N {kd : List (Nat × Nat)} {M : mv_M} {b : Nat} {z : Int64} (hb : boOk kd M b) : isN (huFa M b z) 1001 := by
  unfold huFa
  have h1 : bc M b ≤ 1000 := hb.2.2.2.2.2.2.2.2.2.2
  have := faF_le (s := fun j => szOf (M.2.1 (b + 3) j)) (z := z) (c := bc M b) 32 0 (bc M b) (Nat.zero_le _) (Nat.le_refl _)
  exact isN.nI (by omega) (by omega)
def sX6_learnSteps (kd : List (Nat × Nat)) : mv_S := ms_aa (fun b a h => b = 0 ∧ clI kd h ∧ isLa h a) (fun _ a h v h' => v = none ∧ h' = lsO h (nLa a))
noncomputable def csX6_learnSteps (kd : List (Nat × Nat)) : mv_CS := (mv_cc 222 1 0 (sX1_leastAcross kd) (mv_cc 118 5 3 (sX5_gatherUpTo kd) (mv_cc 227 3 3 (sX3_setStepFacts kd) (mv_cc 135 0 1 (sX0_sizeAt kd) (mv_cc 126 0 1 (sX0_firstAbove kd) (mv_cc 231 4 2 (sX4_isFull kd) mv_c0))))))
theorem oX6_learnSteps {l : Launch} {b : Nat} {ad : Nat → Nat} {D : va_G} {cA : Nat → ClassId} {kd : List (Nat × Nat)} (had : ∀ i, i < kd.length → ad i = b + i) : mv_Own l (mv_room 5) b ad D cA kd RX6 flX6 cIX6 cLX6 (csX6_learnSteps kd) := (mv_oV lRX6_222 zX1_leastAcross rfl (by decide) (ctX1_leastAcross had) ⟨by decide, by decide⟩ (mv_oV lRX6_118 zX5_gatherUpTo rfl (by decide) (ctX5_gatherUpTo had) ⟨by decide, by decide⟩ (mv_oV lRX6_227 zX3_setStepFacts rfl (by decide) (ctX3_setStepFacts had) ⟨by decide, by decide⟩ (mv_oV lRX6_135 zX0_sizeAt rfl (by decide) (ctX0_sizeAt had) ⟨by decide, by decide⟩ (mv_oV lRX6_126 zX0_firstAbove rfl (by decide) (ctX0_firstAbove had) ⟨by decide, by decide⟩ (mv_oV lRX6_231 zX4_isFull rfl (by decide) (ctX4_isFull had) ⟨by decide, by decide⟩ (mv_o0 flX6_ok cIX6_ok cLX6_ok)))))))
set_option maxRecDepth 100000 in
set_option maxHeartbeats 4000000 in
theorem ctX6_learnSteps {l : Launch} {b : Nat} {ad : Nat → Nat} {D : va_G} {cA : Nat → ClassId} {kd : List (Nat × Nat)} (had : ∀ i, i < kd.length → ad i = b + i) : mv_Ct l b ad D cA kd yX6_learnSteps cX6_learnSteps 5 none 5 (sX6_learnSteps kd) := by
  refine mv_introF (rk := 0) tX6_learnSteps (mv_pf plRX6) kX6_learnSteps had ⟨(fun _ => rfl), (fun e => by cases e), (fun e => by cases e), (fun e => by cases e), (fun e => by cases e)⟩ (oX6_learnSteps had) ?_
  intro h as hp
  obtain ⟨x0, x1, rfl, hq⟩ := ms_aa_inv hp
  refine ⟨Nat.le_of_ble_eq_true rfl, fun X hX => ?_⟩
  show X 0 [some (.ref x0), some (.ref x1), none, none, none] [] h
  obtain ⟨rfl, hI, l0, hl0, rfl⟩ := hq
  have hS := hI.1
  obtain ⟨⟨⟨K1, K2⟩, ⟨⟨p0, p1, p2, p3, p4, p5, p6⟩, pls, psh⟩, hC⟩, ⟨g1, g3, g5⟩, ⟨hw, hu, hr⟩, ⟨b29, b33⟩, hla⟩ := id hS
  obtain ⟨pl, psp⟩ := sbLs_eq hS.1.2.1
  have hL20 : l0 < 20 := by have := hC.2; omega
  have hLa := hla l0 hL20
  have hcl := hI.2 l0 hl0
  obtain ⟨a1, a2, a3, a4, a5, a6, a7⟩ := id hLa
  have n0 : 0 < gn h (37 + 6 * l0 + 1) := hcl.1.1.1
  have hs := hcl.ls
  obtain ⟨pre, fr, w2, b2, hM⟩ := rwO_ok (s := laS h l0) hI hl0 ⟨hs.2.1, by omega⟩
  have eO : guO h 8 (37 + 6 * l0) (laS h l0) (sbSp h) = rwO h l0 (laS h l0) := rfl
  have hB := hS.ls.2
  have fR : (rwO h l0 (laS h l0)).2.2.2 = h.2.2 := fr.1
  obtain ⟨hI2, -, -, -⟩ := hI.sw fr w2 b2
  have hLa2 := hI2.1.2.2.2.2 l0 hL20
  have hr2 := hI2.1.2.2.1.2.2
  have hmn : (if inR (bc (rwO h l0 (laS h l0)).2 (sbSp h)) 0 then szOf ((rwO h l0 (laS h l0)).2.2.1 (sbSp h + 3) 0) else 0) = lsMn (rwO h l0 (laS h l0)).2 (sbSp h) := rfl
  have hfa : ∀ z, nI (faF (fun j => szOf ((rwO h l0 (laS h l0)).2.2.1 (sbSp h + 3) j)) z 32 0 (bc (rwO h l0 (laS h l0)).2 (sbSp h))) = huFa (rwO h l0 (laS h l0)).2 (sbSp h) z := fun z => rfl
  have hfn := huFa_N (z := lsMn (rwO h l0 (laS h l0)).2 (sbSp h)) b2
  have hlr : ifO (rwO h l0 (laS h l0)).2 25 (sbSp h) (huFa (rwO h l0 (laS h l0)).2 (sbSp h) (lsMn (rwO h l0 (laS h l0)).2 (sbSp h))).toNatClampNeg = lsR (rwO h l0 (laS h l0)).2 (sbSp h) := rfl
  have frR : frU 25 28 (rwO h l0 (laS h l0)).2 (lsR (rwO h l0 (laS h l0)).2 (sbSp h)) := ifO_fr _ _ _
  obtain ⟨hI3, -, -, -⟩ := hI2.ra frR
  have hLa3 := hI3.1.2.2.2.2 l0 hL20
  have z0 : Int32.toNatClampNeg 0 = 0 := by decide
  refine mv_go hX 80 ?_
  simp only [mv_wps, mv_exq, mv_exr, mv_exn, mv_xg, mv_xpi, mv_xpl, mv_xpr, mv_xc, mv_xc2, mv_xs, mv_9z, mv_cqs, mv_calls, mv_lgz, mv_stz, mv_kz, mv_cz, mv_fvs, mv_ats, mv_ics, mv_rz, mv_tz, mv_cns, mv_nfs, mv_fins, mv_det, mv_cc, mv_c0, Nat.reduceAdd, Nat.reduceEqDiff, Nat.reduceLT, Nat.reduceLeDiff, Nat.reduceSub, reduceIte, decide_false, decide_true, Bool.false_eq_true, List.map_cons, List.map_nil, List.sum_cons, List.sum_nil, true_and, and_true, true_or, or_true, false_or, or_false, false_and, and_false, true_implies, false_implies, implies_true, not_true_eq_false, not_false_eq_true, lg_cmp_ge, lg_cmp_le, lg_cmp_gt, lg_cmp_lt, lg_cmp_eq, qX6_learnSteps, flX6s, cIX6s, cLX6s, csX6_learnSteps, sX6_learnSteps, sX1_leastAcross, sX5_gatherUpTo, sX3_setStepFacts, sX0_sizeAt, sX0_firstAbove, sX4_isFull, ms_a, ms_aa, ms_aai, ms_aaia, ms_ai, ms_al, ms_alll, K1, hS, hcl.ls2, p4, psp, hw, hw.1, hLa, a1, a3, a6, a6.1, n0, hB, hB.1, pre, eO, fR, b2, b2.1, hLa2, hr2, hr2.1, z0, hmn, hfa, hfn, hlr, hLa3, p6, mv_b01, nLa_37]
  refine ⟨⟨by omega, by omega⟩, fun z => ?_, fun z => ?_⟩
  · have z' : ¬ (rwO h l0 (laS h l0)).1 < 1 := Int32.not_lt.mpr z
    refine ⟨fun y => ?_, fun y => ?_⟩
    · unfold lsO
      rw [if_neg z', if_neg y]
    · unfold lsO
      rw [if_neg z', if_pos (Classical.not_not.mp y)]
  · unfold lsO
    rw [if_pos (Int32.not_le.mp z)]
/-! ways counted -/
noncomputable def cwR (h : mv_M) (a d : Nat) (first : Int32) : mv_M := huR (rwO h a (laG h d)).2 14 (37 + 6 * a + 1) (37 + 6 * d + 1) (sbSp h) first
noncomputable def cwO (h : mv_M) (a d : Nat) (first : Int32) : Int64 × mv_M := if h.2.1 (37 + 6 * a) 3 = h.2.1 (37 + 6 * d) 3 then (if (rwO h a (laG h d)).1 < 0 then (-2, (rwO h a (laG h d)).2) else (if (cwR h a d first).1 14 4 = 0 then (cwR h a d first).2.1 14 2 else -2, cwR h a d first)) else (0, h)
theorem cwO_0 {h : mv_M} {a d : Nat} {first : Int32} (z : ¬ h.2.1 (37 + 6 * a) 3 = h.2.1 (37 + 6 * d) 3) : cwO h a d first = (0, h) := by
  unfold cwO
  rw [if_neg z]
theorem cwO_1 {h : mv_M} {a d : Nat} {first : Int32} (z : h.2.1 (37 + 6 * a) 3 = h.2.1 (37 + 6 * d) 3) (y : (rwO h a (laG h d)).1 < 0) : cwO h a d first = (-2, (rwO h a (laG h d)).2) := by
  unfold cwO
  rw [if_pos z, if_pos y]
theorem cwO_2 {h : mv_M} {a d : Nat} {first : Int32} (z : h.2.1 (37 + 6 * a) 3 = h.2.1 (37 + 6 * d) 3) (y : ¬ (rwO h a (laG h d)).1 < 0) : cwO h a d first = (if (cwR h a d first).1 14 4 = 0 then (cwR h a d first).2.1 14 2 else -2, cwR h a d first) := by
  unfold cwO
  rw [if_pos z, if_neg y]
noncomputable def sX6_countWays (kd : List (Nat × Nat)) : mv_S := ms_aaai (fun b a d first h => b = 0 ∧ clI kd h ∧ (isLa h a ∧ isLa h d) ∧ (first = 0 ∨ first = 1)) (fun _ a d first h v h' => v = some (.long (cwO h (nLa a) (nLa d) first).1) ∧ h' = (cwO h (nLa a) (nLa d) first).2)
noncomputable def csX6_countWays (kd : List (Nat × Nat)) : mv_CS := (mv_cc 235 1 0 (sX1_greatestAcross kd) (mv_cc 118 5 3 (sX5_gatherUpTo kd) (mv_cc 238 2 4 (sX2_count kd) mv_c0)))
theorem oX6_countWays {l : Launch} {b : Nat} {ad : Nat → Nat} {D : va_G} {cA : Nat → ClassId} {kd : List (Nat × Nat)} (had : ∀ i, i < kd.length → ad i = b + i) : mv_Own l (mv_room 18) b ad D cA kd RX6 flX6 cIX6 cLX6 (csX6_countWays kd) := (mv_oV lRX6_235 zX1_greatestAcross rfl (by decide) (ctX1_greatestAcross had) ⟨by decide, by decide⟩ (mv_oV lRX6_118 zX5_gatherUpTo rfl (by decide) (ctX5_gatherUpTo had) ⟨by decide, by decide⟩ (mv_oV lRX6_238 zX2_count rfl (by decide) (ctX2_count had) ⟨by decide, by decide⟩ (mv_o0 flX6_ok cIX6_ok cLX6_ok))))
set_option maxRecDepth 100000 in
set_option maxHeartbeats 4000000 in
theorem ctX6_countWays {l : Launch} {b : Nat} {ad : Nat → Nat} {D : va_G} {cA : Nat → ClassId} {kd : List (Nat × Nat)} (had : ∀ i, i < kd.length → ad i = b + i) : mv_Ct l b ad D cA kd yX6_countWays cX6_countWays 4 (some .long) 18 (sX6_countWays kd) := by
  refine mv_introF (rk := 3) tX6_countWays (mv_pf plRX6) kX6_countWays had ⟨(fun e => by cases e), (fun e => by cases e), (fun e => by cases e), (fun _ => rfl), (fun e => by cases e)⟩ (oX6_countWays had) ?_
  intro h as hp
  obtain ⟨x0, x1, x2, x3, rfl, hq⟩ := ms_aaai_inv hp
  refine ⟨Nat.le_of_ble_eq_true rfl, fun X hX => ?_⟩
  show X 0 [some (.ref x0), some (.ref x1), some (.ref x2), some (.int x3)] [] h
  obtain ⟨rfl, hI, ⟨⟨l0, hl0, rfl⟩, ⟨l1, hl1, rfl⟩⟩, hfo⟩ := hq
  have hS := hI.1
  obtain ⟨⟨⟨K1, K2⟩, ⟨⟨p0, p1, p2, p3, p4, p5, p6⟩, pls, psh⟩, hC⟩, ⟨g1, g3, g5⟩, ⟨hw, hu, hr⟩, ⟨b29, b33⟩, hla⟩ := id hS
  obtain ⟨pl, psp⟩ := sbLs_eq hS.1.2.1
  have hL20 : l0 < 20 := by have := hC.2; omega
  have hM20 : l1 < 20 := by have := hC.2; omega
  have hLa := hla l0 hL20
  have hLd := hla l1 hM20
  have hcl := hI.2 l1 hl1
  obtain ⟨a1, a2, a3, a4, a5, a6, a7⟩ := id hLa
  obtain ⟨e1, e2, e3, e4, e5, e6, e7⟩ := id hLd
  have n0 : 0 < gn h (37 + 6 * l1 + 1) := hcl.1.1.1
  have hs := hcl.gs
  obtain ⟨pre, fr, w2, b2, hM⟩ := rwO_ok (s := laG h l1) hI hl0 ⟨hs.2.1, by omega⟩
  have eO : guO h 8 (37 + 6 * l0) (laG h l1) (sbSp h) = rwO h l0 (laG h l1) := rfl
  have hB := hS.ls.2
  have fR : (rwO h l0 (laG h l1)).2.2.2 = h.2.2 := fr.1
  obtain ⟨hI2, -, -, -⟩ := hI.sw fr w2 b2
  have hu2 := hI2.1.2.2.1.2.1
  have ga2 := (hI2.1.2.2.2.2 l0 hL20).2.2.2.2.2.1
  have gd2 := (hI2.1.2.2.2.2 l1 hM20).2.2.2.2.2.1
  have eR : huR (rwO h l0 (laG h l1)).2 14 (37 + 6 * l0 + 1) (37 + 6 * l1 + 1) (sbSp h) x3 = cwR h l0 l1 x3 := rfl
  have k14 := hu.1.1
  refine mv_go hX 80 ?_
  simp only [mv_wps, mv_exq, mv_exr, mv_exn, mv_xg, mv_xpi, mv_xpl, mv_xpr, mv_xc, mv_xc2, mv_xs, mv_9z, mv_cqs, mv_calls, mv_lgz, mv_stz, mv_kz, mv_cz, mv_fvs, mv_ats, mv_ics, mv_rz, mv_tz, mv_cns, mv_nfs, mv_fins, mv_det, mv_cc, mv_c0, Nat.reduceAdd, Nat.reduceEqDiff, Nat.reduceLT, Nat.reduceLeDiff, Nat.reduceSub, reduceIte, decide_false, decide_true, Bool.false_eq_true, List.map_cons, List.map_nil, List.sum_cons, List.sum_nil, true_and, and_true, true_or, or_true, false_or, or_false, false_and, and_false, true_implies, false_implies, implies_true, not_true_eq_false, not_false_eq_true, lg_cmp_ge, lg_cmp_le, lg_cmp_gt, lg_cmp_lt, lg_cmp_eq, qX6_countWays, flX6s, cIX6s, cLX6s, csX6_countWays, sX6_countWays, sX1_greatestAcross, sX5_gatherUpTo, sX2_count, ms_a, ms_aaaai, ms_aaai, ms_aaia, K1, hS, hcl.gs2, p4, psp, p5, hw, hw.1, hLa, a1, a3, a6, a6.1, e1, e3, e6, e6.1, n0, hB, hB.1, pre, eO, fR, b2, b2.1, hu2, hu2.1.1, k14, ga2, gd2, eR, hfo, mv_b01, nLa_37]
  refine ⟨fun z => ⟨⟨by omega, by omega⟩, fun y => ?_, fun y => ?_⟩, fun z => ?_⟩
  · refine ⟨⟨by omega, by omega, by omega, by omega⟩, ?_⟩
    rw [cwO_2 z (Int32.not_lt.mpr y)]
    refine ⟨?_, ?_⟩ <;> dsimp only
  · rw [cwO_1 z (Int32.not_le.mp y)]
    refine ⟨?_, ?_⟩ <;> dsimp only
  · rw [cwO_0 z]
    refine ⟨?_, ?_⟩ <;> dsimp only
/-! a fact -/
noncomputable def foO (h : mv_M) (l w : Nat) : Int64 × mv_M := if h.2.1 (37 + 6 * l + 5) w = -9 then (if w = 6 then ((cwO h l l 0).1, mv_sl (cwO h l l 0).2 (37 + 6 * l + 5) 6 (cwO h l l 0).1) else ((lsO h l).2.1 (37 + 6 * l + 5) w, lsO h l)) else (h.2.1 (37 + 6 * l + 5) w, h)
theorem cwO_R {kd : List (Nat × Nat)} {h : mv_M} {a d : Nat} {first : Int32} (hI : clI kd h) (ha : a < sbC h) (hd : d < sbC h) : (cwO h a d first).2.2.2 = h.2.2 := by
  have hs := (hI.2 d hd).gs
  obtain ⟨-, fr, -, -, -⟩ := rwO_ok (s := laG h d) hI ha ⟨hs.2.1, by omega⟩
  have f1 := fr.1
  have f2 : (cwR h a d first).2.2 = h.2.2 := by
    unfold cwR
    rw [(huR_fr (u := 14)).1]
    exact f1
  by_cases z : h.2.1 (37 + 6 * a) 3 = h.2.1 (37 + 6 * d) 3
  · by_cases y : (rwO h a (laG h d)).1 < 0
    · rw [cwO_1 z y]
      dsimp only
      exact f1
    · rw [cwO_2 z y]
      dsimp only
      exact f2
  · rw [cwO_0 z]
theorem lsO_1 {h : mv_M} {l : Nat} (z : (rwO h l (laS h l)).1 < 1) : lsO h l = laSteps (rwO h l (laS h l)).2 (37 + 6 * l) (-2) (-2) (-2) := by
  unfold lsO
  rw [if_pos z]
theorem lsO_2 {h : mv_M} {l : Nat} (z : ¬ (rwO h l (laS h l)).1 < 1) : lsO h l = laSteps (lsR (rwO h l (laS h l)).2 (sbSp h)) (37 + 6 * l) (lsMn (rwO h l (laS h l)).2 (sbSp h)) (huFa (rwO h l (laS h l)).2 (sbSp h) (lsMn (rwO h l (laS h l)).2 (sbSp h))).toInt64 (if (lsR (rwO h l (laS h l)).2 (sbSp h)).1 25 1 = (lsR (rwO h l (laS h l)).2 (sbSp h)).1 25 0 then 1 else 0) := by
  unfold lsO
  rw [if_neg z]
theorem laSteps_R (h : mv_M) (a : Nat) (x y z : Int64) : (laSteps h a x y z).1 = h.1 ∧ (laSteps h a x y z).2.2 = h.2.2 ∧ ∀ o, o ≠ a + 5 → (laSteps h a x y z).2.1 o = h.2.1 o := ⟨rfl, rfl, fun o ho => by
  unfold laSteps
  rw [mv_sl_ne ho, mv_sl_ne ho, mv_sl_ne ho]⟩
theorem lsO_R {kd : List (Nat × Nat)} {h : mv_M} {l : Nat} (hI : clI kd h) (hl : l < sbC h) : (lsO h l).2.2 = h.2.2 := by
  have hs := (hI.2 l hl).ls
  obtain ⟨-, fr, -, -, -⟩ := rwO_ok (s := laS h l) hI hl ⟨hs.2.1, by omega⟩
  have f1 := fr.1
  have f2 : (lsR (rwO h l (laS h l)).2 (sbSp h)).2.2 = h.2.2 := by
    unfold lsR
    rw [(ifO_fr _ _ _).1]
    exact f1
  by_cases z : (rwO h l (laS h l)).1 < 1
  · rw [lsO_1 z, (laSteps_R _ _ _ _ _).2.1]
    exact f1
  · rw [lsO_2 z, (laSteps_R _ _ _ _ _).2.1]
    exact f2
noncomputable def sX6_factOf (kd : List (Nat × Nat)) : mv_S := ms_aai (fun b a w h => b = 0 ∧ clI kd h ∧ isLa h a ∧ isN w 7) (fun _ a w h v h' => v = some (.long (foO h (nLa a) w.toNatClampNeg).1) ∧ h' = (foO h (nLa a) w.toNatClampNeg).2)
noncomputable def csX6_factOf (kd : List (Nat × Nat)) : mv_CS := (mv_cc 149 6 3 (sX6_countWays kd) (mv_cc 218 6 1 (sX6_learnSteps kd) mv_c0))
theorem oX6_factOf {l : Launch} {b : Nat} {ad : Nat → Nat} {D : va_G} {cA : Nat → ClassId} {kd : List (Nat × Nat)} (had : ∀ i, i < kd.length → ad i = b + i) : mv_Own l (mv_room 19) b ad D cA kd RX6 flX6 cIX6 cLX6 (csX6_factOf kd) := (mv_oV lRX6_149 zX6_countWays rfl (by decide) (ctX6_countWays had) ⟨by decide, by decide⟩ (mv_oV lRX6_218 zX6_learnSteps rfl (by decide) (ctX6_learnSteps had) ⟨by decide, by decide⟩ (mv_o0 flX6_ok cIX6_ok cLX6_ok)))
set_option maxRecDepth 100000 in
set_option maxHeartbeats 4000000 in
theorem ctX6_factOf {l : Launch} {b : Nat} {ad : Nat → Nat} {D : va_G} {cA : Nat → ClassId} {kd : List (Nat × Nat)} (had : ∀ i, i < kd.length → ad i = b + i) : mv_Ct l b ad D cA kd yX6_factOf cX6_factOf 3 (some .long) 19 (sX6_factOf kd) := by
  refine mv_introF (rk := 3) tX6_factOf (mv_pf plRX6) kX6_factOf had ⟨(fun e => by cases e), (fun e => by cases e), (fun e => by cases e), (fun _ => rfl), (fun e => by cases e)⟩ (oX6_factOf had) ?_
  intro h as hp
  obtain ⟨x0, x1, x2, rfl, hq⟩ := ms_aai_inv hp
  refine ⟨Nat.le_of_ble_eq_true rfl, fun X hX => ?_⟩
  show X 0 [some (.ref x0), some (.ref x1), some (.int x2)] [] h
  obtain ⟨rfl, hI, ⟨l0, hl0, rfl⟩, ⟨e7, h7⟩⟩ := hq
  generalize hw7 : x2.toNatClampNeg = w7 at e7 h7
  subst e7
  have cw7 : (nI w7).toNatClampNeg = w7 := nI_clamp (by omega)
  have hS := hI.1
  obtain ⟨⟨⟨K1, K2⟩, ⟨⟨p0, p1, p2, p3, p4, p5, p6⟩, pls, psh⟩, hC⟩, ⟨g1, g3, g5⟩, ⟨hw, hu, hr⟩, ⟨b29, b33⟩, hla⟩ := id hS
  have hL20 : l0 < 20 := by have := hC.2; omega
  have hLa := hla l0 hL20
  obtain ⟨a1, a2, a3, a4, a5, a6, a7⟩ := id hLa
  have vp7 : vp_in (nI w7) 7 := vp_in_nI (by omega) (by omega)
  have vp6 : vp_in 6 7 := vp_in_nI (n := 6) (by omega) (by omega)
  have isl : isLa h (37 + 6 * l0) := ⟨l0, hl0, rfl⟩
  have h00 : (0 : Int32) = 0 ∨ (0 : Int32) = 1 := Or.inl rfl
  have cR := cwO_R (first := 0) hI hl0 hl0
  have lR := lsO_R hI hl0
  have c6 : Int32.toNatClampNeg 6 = 6 := by decide
  refine mv_go hX 80 ?_
  simp only [mv_wps, mv_exq, mv_exr, mv_exn, mv_xg, mv_xpi, mv_xpl, mv_xpr, mv_xc, mv_xc2, mv_xs, mv_9z, mv_cqs, mv_calls, mv_lgz, mv_stz, mv_kz, mv_cz, mv_fvs, mv_ats, mv_ics, mv_rz, mv_tz, mv_cns, mv_nfs, mv_fins, mv_det, mv_cc, mv_c0, Nat.reduceAdd, Nat.reduceEqDiff, Nat.reduceLT, Nat.reduceLeDiff, Nat.reduceSub, reduceIte, decide_false, decide_true, Bool.false_eq_true, List.map_cons, List.map_nil, List.sum_cons, List.sum_nil, true_and, and_true, true_or, or_true, false_or, or_false, false_and, and_false, true_implies, false_implies, implies_true, not_true_eq_false, not_false_eq_true, lg_cmp_ge, lg_cmp_le, lg_cmp_gt, lg_cmp_lt, lg_cmp_eq, qX6_factOf, flX6s, cIX6s, cLX6s, csX6_factOf, sX6_factOf, sX6_countWays, sX6_learnSteps, ms_aa, ms_aaai, ms_aai, K1, hS, hI, isl, a1, a5, mv_lenK a2, vp7, vp6, cw7, nLa_37, cR, lR, c6, h00, mv_slR]
  have i6 : (6 : Int32) = nI 6 := by decide
  refine ⟨fun z => ?_, fun z => ⟨fun y => ?_, fun y => ?_⟩⟩
  · have e : foO h l0 w7 = (h.2.1 (37 + 6 * l0 + 5) w7, h) := by unfold foO; rw [if_neg z]
    rw [e]
    refine ⟨?_, ?_⟩ <;> dsimp only
  · have e : foO h l0 w7 = ((lsO h l0).2.1 (37 + 6 * l0 + 5) w7, lsO h l0) := by unfold foO; rw [if_pos (Classical.not_not.mp z), if_neg (fun q => y (by rw [q, i6]))]
    rw [e]
    refine ⟨?_, ?_⟩ <;> dsimp only
  · have y6 : w7 = 6 := by
      have := Classical.not_not.mp y
      rw [i6] at this
      exact nI_inj (by omega) (by omega) this
    have e : foO h l0 w7 = ((cwO h l0 l0 0).1, mv_sl (cwO h l0 l0 0).2 (37 + 6 * l0 + 5) 6 (cwO h l0 l0 0).1) := by unfold foO; rw [if_pos (Classical.not_not.mp z), if_pos y6]
    rw [e, y6, mv_sl_get]
    refine ⟨?_, ?_⟩ <;> dsimp only
def abK (h : mv_M) (l w : Int32) : Prop := inR (sbC h) l ∧ inR 7 w
noncomputable def sX6_about (kd : List (Nat × Nat)) : mv_S := ms_aii (fun b _ _ h => b = 0 ∧ clI kd h) (fun _ l w h v h' => (¬ abK h l w ∧ v = some (.long (-1)) ∧ h' = h) ∨ (abK h l w ∧ v = some (.long (foO h l.toNatClampNeg w.toNatClampNeg).1) ∧ h' = (foO h l.toNatClampNeg w.toNatClampNeg).2))
noncomputable def csX6_about (kd : List (Nat × Nat)) : mv_CS := (mv_cc 103 6 1 (sX6_latticeAt kd) (mv_cc 113 6 2 (sX6_factOf kd) mv_c0))
theorem oX6_about {l : Launch} {b : Nat} {ad : Nat → Nat} {D : va_G} {cA : Nat → ClassId} {kd : List (Nat × Nat)} (had : ∀ i, i < kd.length → ad i = b + i) : mv_Own l (mv_room 20) b ad D cA kd RX6 flX6 cIX6 cLX6 (csX6_about kd) := (mv_oV lRX6_103 zX6_latticeAt rfl (by decide) (ctX6_latticeAt had) ⟨by decide, by decide⟩ (mv_oV lRX6_113 zX6_factOf rfl (by decide) (ctX6_factOf had) ⟨by decide, by decide⟩ (mv_o0 flX6_ok cIX6_ok cLX6_ok)))
set_option maxRecDepth 100000 in
set_option maxHeartbeats 4000000 in
theorem ctX6_about {l : Launch} {b : Nat} {ad : Nat → Nat} {D : va_G} {cA : Nat → ClassId} {kd : List (Nat × Nat)} (had : ∀ i, i < kd.length → ad i = b + i) : mv_Ct l b ad D cA kd yX6_about cX6_about 4 (some .long) 20 (sX6_about kd) := by
  refine mv_introF (rk := 3) tX6_about (mv_pf plRX6) kX6_about had ⟨(fun e => by cases e), (fun e => by cases e), (fun e => by cases e), (fun _ => rfl), (fun e => by cases e)⟩ (oX6_about had) ?_
  intro h as hp
  obtain ⟨x0, x1, x2, rfl, hq⟩ := ms_aii_inv hp
  refine ⟨Nat.le_of_ble_eq_true rfl, fun X hX => ?_⟩
  show X 0 [some (.ref x0), some (.int x1), some (.int x2), none] [] h
  obtain ⟨rfl, hI⟩ := hq
  have hS := hI.1
  obtain ⟨⟨⟨K1, K2⟩, ⟨⟨p0, p1, p2, p3, p4, p5, p6⟩, pls, psh⟩, hC⟩, ⟨g1, g3, g5⟩, ⟨hw, hu, hr⟩, ⟨b29, b33⟩, hla⟩ := id hS
  have i7 : (7 : Int32) = nI 7 := by decide
  by_cases hin : inR (sbC h) x1
  · have eA : sbAt h x1 = .ref (37 + 6 * x1.toNatClampNeg) := if_pos hin
    obtain ⟨a, ha, rfl⟩ := inR_nat hin (by have := hC.2; omega)
    have ca : (nI a).toNatClampNeg = a := nI_clamp (by have := hC.2; omega)
    rw [ca] at eA
    obtain ⟨a1, a2, a3, a4, a5, a6, a7⟩ := hla a (by have := hC.2; omega)
    have isl : isLa h (37 + 6 * a) := ⟨a, ha, rfl⟩
    by_cases hw7 : inR 7 x2
    · have hok : abK h (nI a) x2 := ⟨hin, hw7⟩
      obtain ⟨w7, hl7, rfl⟩ := inR_nat hw7 (by omega)
      have cw7 : (nI w7).toNatClampNeg = w7 := nI_clamp (by omega)
      have n7 : isN (nI w7) 7 := isN.nI (by omega) (by omega)
      refine mv_go hX 60 ?_
      simp only [mv_wps, mv_exq, mv_exr, mv_exn, mv_xg, mv_xpi, mv_xpl, mv_xpr, mv_xc, mv_xc2, mv_xs, mv_9z, mv_cqs, mv_calls, mv_lgz, mv_stz, mv_kz, mv_cz, mv_fvs, mv_ats, mv_ics, mv_rz, mv_tz, mv_cns, mv_nfs, mv_fins, mv_det, mv_cc, mv_c0, Nat.reduceAdd, Nat.reduceEqDiff, Nat.reduceLT, Nat.reduceLeDiff, Nat.reduceSub, reduceIte, decide_false, decide_true, Bool.false_eq_true, List.map_cons, List.map_nil, List.sum_cons, List.sum_nil, true_and, and_true, true_or, or_true, false_or, or_false, false_and, and_false, true_implies, false_implies, implies_true, not_true_eq_false, not_false_eq_true, lg_cmp_ge, lg_cmp_le, lg_cmp_gt, lg_cmp_lt, lg_cmp_eq, qX6_about, flX6s, cIX6s, cLX6s, csX6_about, sX6_about, sX6_latticeAt, sX6_factOf, ms_aai, ms_ai, ms_aii, K1, hS, hI, eA, a1, a5, a2, isl, n7, ca, cw7, nLa_37]
      refine ⟨fun z => absurd z (nI_pos (by omega)), fun _ => ⟨fun _ => ?_, fun z => ?_⟩⟩
      · exact Or.inr hok
      · exact absurd (Int32.not_le.mp hw7.2) z
    · have hno : ¬ abK h (nI a) x2 := fun q => hw7 q.2
      refine mv_go hX 24 ?_
      simp only [mv_wps, mv_exq, mv_exr, mv_exn, mv_xg, mv_xpi, mv_xpl, mv_xpr, mv_xc, mv_xc2, mv_xs, mv_9z, mv_cqs, mv_calls, mv_lgz, mv_stz, mv_kz, mv_cz, mv_fvs, mv_ats, mv_ics, mv_rz, mv_tz, mv_cns, mv_nfs, mv_fins, mv_det, mv_cc, mv_c0, Nat.reduceAdd, Nat.reduceEqDiff, Nat.reduceLT, Nat.reduceLeDiff, Nat.reduceSub, reduceIte, decide_false, decide_true, Bool.false_eq_true, List.map_cons, List.map_nil, List.sum_cons, List.sum_nil, true_and, and_true, true_or, or_true, false_or, or_false, false_and, and_false, true_implies, false_implies, implies_true, not_true_eq_false, not_false_eq_true, lg_cmp_ge, lg_cmp_le, lg_cmp_gt, lg_cmp_lt, lg_cmp_eq, qX6_about, flX6s, cIX6s, cLX6s, csX6_about, sX6_about, sX6_latticeAt, sX6_factOf, ms_aai, ms_ai, ms_aii, K1, hS, hI, eA, a1, a5, a2, ca]
      refine ⟨fun _ => Or.inl hno, fun z => ⟨fun y => ?_, fun _ => Or.inl hno⟩⟩
      exact absurd ⟨z, Int32.not_le.mpr y⟩ hw7
  · have eA : sbAt h x1 = .null := if_neg hin
    refine mv_go hX 60 ?_
    simp only [mv_wps, mv_exq, mv_exr, mv_exn, mv_xg, mv_xpi, mv_xpl, mv_xpr, mv_xc, mv_xc2, mv_xs, mv_9z, mv_cqs, mv_calls, mv_lgz, mv_stz, mv_kz, mv_cz, mv_fvs, mv_ats, mv_ics, mv_rz, mv_tz, mv_cns, mv_nfs, mv_fins, mv_det, mv_cc, mv_c0, Nat.reduceAdd, Nat.reduceEqDiff, Nat.reduceLT, Nat.reduceLeDiff, Nat.reduceSub, reduceIte, decide_false, decide_true, Bool.false_eq_true, List.map_cons, List.map_nil, List.sum_cons, List.sum_nil, true_and, and_true, true_or, or_true, false_or, or_false, false_and, and_false, true_implies, false_implies, implies_true, not_true_eq_false, not_false_eq_true, lg_cmp_ge, lg_cmp_le, lg_cmp_gt, lg_cmp_lt, lg_cmp_eq, qX6_about, flX6s, cIX6s, cLX6s, csX6_about, sX6_about, sX6_latticeAt, sX6_factOf, ms_aai, ms_ai, ms_aii, K1, hS, eA]
    exact Or.inl (fun q => hin q.1)
