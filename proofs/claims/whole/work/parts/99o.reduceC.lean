/-! The bench: reduce. -/
def idN (i : Nat) : Nat → Nat → Int64 := fun r c => if r = c ∧ r < i then 1 else 0
theorem gW_put {h : mv_M} {g i k : Nat} {F : Nat → Nat → Int64} {v : Int64} (hi : i < 4) (hk : k < 4) : mv_sl (gW h g F) (g + 1) (4 * i + k) v = gW h g (fun r c => if r = i ∧ c = k then v else F r c) := by
  unfold gW
  rw [fillA_set]
  congr 1
  funext j
  by_cases e : j = 4 * i + k
  · rw [if_pos e, if_pos (by omega)]
    dsimp only
    rw [if_pos ⟨by omega, by omega⟩]
  · rw [if_neg e]
    by_cases z : j < 16
    · rw [if_pos z, if_pos z]
      dsimp only
      rw [if_neg (by omega)]
    · rw [if_neg z, if_neg z]
theorem idN_S {i : Nat} (hi : i ≤ 4) : mS (idN i) := fun r c z => if_neg (by omega)
theorem idN_up (i : Nat) : (fun r c => if r = i ∧ c = i then (1 : Int64) else idN i r c) = idN (i + 1) := by
  funext r c
  unfold idN
  by_cases e : r = i ∧ c = i
  · rw [if_pos e, if_pos ⟨by omega, by omega⟩]
  · rw [if_neg e]
    by_cases z : r = c ∧ r < i
    · rw [if_pos z, if_pos ⟨z.1, by omega⟩]
    · rw [if_neg z, if_neg (by omega)]
theorem gOpen_W (h : mv_M) (g : Nat) (n : Int32) : gW (gOpen h g n) g (idN 0) = gOpen h g n := by
  have e : gM (gOpen h g n) g = idN 0 := by
    funext r c
    unfold gM idN
    rw [if_neg (show ¬ (r = c ∧ r < 0) by omega)]
    by_cases z : r < 4 ∧ c < 4
    · rw [if_pos z]
      have : 4 * r + c < 16 := by omega
      simp [gE, gOpen, gFill, this]
    · rw [if_neg z]
  rw [← e]
  exact gW_self _ _
theorem shCh_R {g w : Nat} : ∀ (m : Nat) (h h' : mv_M), shCh g w m h h' → h'.1 = h.1 ∧ h'.2.2 = h.2.2 ∧ ∀ o, o ≠ g + 1 → o ≠ w + 1 → h'.2.1 o = h.2.1 o
  | 0, h, h', e => by rw [show h' = h from e]; exact ⟨rfl, rfl, fun _ _ _ => rfl⟩
  | m + 1, h, h', e => by
    obtain ⟨h1, e1, i, k, -, e2⟩ := e
    obtain ⟨a1, a2, a3⟩ := shCh_R m h h1 e1
    rw [e2]
    refine ⟨a1, a2, fun o z1 z2 => ?_⟩
    unfold shW
    rw [gW_ne z1, gW_ne z2]
    exact a3 o z1 z2
def rdS (h : mv_M) (l : Nat) : mv_M := gW (gOpen (gCopy h (37 + 6 * sbC h + 1) (37 + 6 * l + 1)) 5 (nI (gn h (37 + 6 * l + 1)))) 5 (idN (gn h (37 + 6 * l + 1)))
def rdZ (M : mv_M) (c : Nat) : mv_M := mW M (37 + 6 * c + 1) 5 (brF (gn M (37 + 6 * c + 1)) (gn M (37 + 6 * c + 1) - 1) (gM M (37 + 6 * c + 1), gM M 5))
def rdC (h : mv_M) (l : Nat) (v : Option Value) (h' : mv_M) : Prop := ∃ m M w h5, m ≤ 3997 ∧ shCh (37 + 6 * sbC h + 1) 5 m (rdS h l) M ∧ (shNo (gn M (37 + 6 * sbC h + 1)) (gM M (37 + 6 * sbC h + 1)) ∨ m = 3997) ∧ kpP (rdZ M (sbC h)) (37 + 6 * sbC h) (some (.int w)) h5 ∧ v = some (.int w) ∧ h' = if w < 0 then h5 else gCopy h5 3 5
def sX6_reduce (kd : List (Nat × Nat)) : mv_S := ms_ai (fun b _ h => b = 0 ∧ sbOk kd h) (fun _ l h v h' => (¬ rdOK h l ∧ v = some (.int (-1)) ∧ h' = h) ∨ (rdOK h l ∧ rdC h l.toNatClampNeg v h'))
noncomputable def csX6_reduce (kd : List (Nat × Nat)) : mv_CS := (mv_cc 103 6 1 (sX6_latticeAt kd) (mv_cc 81 6 0 (sX6_freeLattice kd) (mv_cc 95 1 1 (sX1_copy kd) (mv_cc 139 3 0 (sX3_ways kd) (mv_cc 64 1 1 (sX1_open kd) (mv_cc 68 1 3 (sX1_put kd) (mv_cc 142 99 2 (sX6_shortenAll kd) (mv_cc 146 99 2 (sX6_sortBySizes kd) (mv_cc 99 6 1 (sX6_keepIfSmall kd) mv_c0)))))))))
theorem oX6_reduce {l : Launch} {b : Nat} {ad : Nat → Nat} {D : va_G} {cA : Nat → ClassId} {kd : List (Nat × Nat)} (had : ∀ i, i < kd.length → ad i = b + i) : mv_Own l (mv_room 12) b ad D cA kd RX6 flX6 cIX6 cLX6 (csX6_reduce kd) := (mv_oV lRX6_103 zX6_latticeAt rfl (by decide) (ctX6_latticeAt had) ⟨by decide, by decide⟩ (mv_oV lRX6_81 zX6_freeLattice rfl (by decide) (ctX6_freeLattice had) ⟨by decide, by decide⟩ (mv_oV lRX6_95 zX1_copy rfl (by decide) (ctX1_copy had) ⟨by decide, by decide⟩ (mv_oV lRX6_139 zX3_ways rfl (by decide) (ctX3_ways had) ⟨by decide, by decide⟩ (mv_oV lRX6_64 zX1_open rfl (by decide) (ctX1_open had) ⟨by decide, by decide⟩ (mv_oV lRX6_68 zX1_put rfl (by decide) (ctX1_put had) ⟨by decide, by decide⟩ (mv_oS lRX6_142 zX6_shortenAll (ctX6_shortenAll had) ⟨by decide, by decide⟩ (mv_oS lRX6_146 zX6_sortBySizes (ctX6_sortBySizes had) ⟨by decide, by decide⟩ (mv_oV lRX6_99 zX6_keepIfSmall rfl (by decide) (ctX6_keepIfSmall had) ⟨by decide, by decide⟩ (mv_o0 flX6_ok cIX6_ok cLX6_ok))))))))))
set_option maxRecDepth 100000 in
set_option maxHeartbeats 4000000 in
theorem ctX6_reduce {l : Launch} {b : Nat} {ad : Nat → Nat} {D : va_G} {cA : Nat → ClassId} {kd : List (Nat × Nat)} (had : ∀ i, i < kd.length → ad i = b + i) : mv_Ct l b ad D cA kd yX6_reduce cX6_reduce 5 (some .int) 12 (sX6_reduce kd) := by
  refine mv_introF (rk := 1) tX6_reduce (mv_pf plRX6) kX6_reduce had ⟨(fun e => by cases e), (fun _ => rfl), (fun e => by cases e), (fun e => by cases e), (fun e => by cases e)⟩ (oX6_reduce had) ?_
  intro h as hp
  obtain ⟨x0, x1, rfl, hq⟩ := ms_ai_inv hp
  refine ⟨Nat.le_of_ble_eq_true rfl, fun X hX => ?_⟩
  show X 0 [some (.ref x0), some (.int x1), none, none, none] [] h
  obtain ⟨rfl, hS⟩ := hq
  obtain ⟨⟨⟨K1, K2⟩, ⟨⟨p0, p1, p2, p3, p4, p5, p6⟩, pls, psh⟩, hC⟩, ⟨g1, g3, g5⟩, ⟨hw, hu, hr⟩, ⟨b29, b33⟩, hla⟩ := id hS
  by_cases hok : rdOK h x1
  · obtain ⟨hin, hf⟩ := id hok
    have eF : sbFree h = .ref (37 + 6 * sbC h) := if_pos hf
    have eA : sbAt h x1 = .ref (37 + 6 * x1.toNatClampNeg) := if_pos hin
    obtain ⟨a, ha, rfl⟩ := inR_nat hin (by have := hC.2; omega)
    have ca : (nI a).toNatClampNeg = a := nI_clamp (by have := hC.2; omega)
    rw [ca] at eA
    have hLa := hla a (by have := hC.2; omega)
    obtain ⟨a1, a2, a3, a4, a5, a6, a7⟩ := id hLa
    have hA := hla (sbC h) hf
    obtain ⟨l1, l2, l3, l4, l5, l6, l7⟩ := id hA
    have ne : 37 + 6 * sbC h + 1 ≠ 37 + 6 * a + 1 := by omega
    have hCh : gCh (37 + 6 * sbC h + 1) h (gCopy h (37 + 6 * sbC h + 1) (37 + 6 * a + 1)) := gCopy_Ch a6
    have cp0 : gn (gCopy h (37 + 6 * sbC h + 1) (37 + 6 * a + 1)) (37 + 6 * sbC h + 1) = gn h (37 + 6 * a + 1) := by
      have : (gCopy h (37 + 6 * sbC h + 1) (37 + 6 * a + 1)).1 (37 + 6 * sbC h + 1) 0 = h.1 (37 + 6 * a + 1) 0 := by simp [gCopy, gFill, mv_si]
      exact congrArg Int32.toNatClampNeg this
    have cpa : (gCopy h (37 + 6 * sbC h + 1) (37 + 6 * a + 1)).1 (37 + 6 * a + 1) 0 = nI (gn h (37 + 6 * a + 1)) := by rw [hCh.2.1 _ 0 (by omega)]; exact a6.2.2.2.1
    have n4 := a6.2.2.2.2
    generalize hn : gn h (37 + 6 * a + 1) = n at *
    generalize hM0 : gCopy h (37 + 6 * sbC h + 1) (37 + 6 * a + 1) = M0 at *
    have m0R : M0.2.2 = h.2.2 := hCh.1
    have m0A := hCh.la hLa
    have m0C := hCh.la hA
    have m05 := hCh.gok g5
    have m03 := hCh.gok g3
    have hO : gCh 5 M0 (gOpen M0 5 (nI n)) := gOpen_Ch n4
    obtain ⟨o1, o2⟩ := gOpen_n (h := M0) (g := 5) n4
    have rdE : rdS h a = gW (gOpen M0 5 (nI n)) 5 (idN n) := by unfold rdS; rw [hn, hM0]
    generalize hM1 : gOpen M0 5 (nI n) = M1 at *
    have m1R : M1.2.2 = h.2.2 := hO.1.trans m0R
    have m1A := hO.la m0A
    have m1C := hO.la m0C
    have m15 := hO.gok m05
    have m13 := hO.gok m03
    have m1n : gn M1 (37 + 6 * sbC h + 1) = n := by
      rw [← cp0]
      exact congrArg Int32.toNatClampNeg (hO.2.1 _ 0 (by omega))
    have m1a : M1.1 (37 + 6 * a + 1) 0 = nI n := by rw [hO.2.1 _ 0 (by omega)]; exact cpa
    have m17 : M1.1 0 7 = h.1 0 7 := by rw [hO.2.1 _ 7 (by omega), hCh.2.1 _ 7 (by omega)]
    have W5 : ∀ F, gOk kd (gW M1 5 F) 5 := fun F => m15
    have WA : ∀ F, laOk kd (gW M1 5 F) (37 + 6 * a) := fun F => m1A.same rfl rfl
    have WR : ∀ F, (gW M1 5 F).2.2 = h.2.2 := fun F => m1R
    have Wa : ∀ F, (gW M1 5 F).1 (37 + 6 * a + 1) 0 = nI n := fun F => m1a
    have Wp : ∀ i, i < n → gPut (gW M1 5 (idN i)) 5 (nI i) (nI i) 1 = gW M1 5 (idN (i + 1)) := fun i hi => by
      have : gn (gW M1 5 (idN i)) 5 = n := o2
      rw [gPut_nI (by omega) (by omega) (by omega), gW_put (by omega) (by omega), idN_up]
    -- the way's first table stands: shortened, sorted, kept
    have tail : ∀ (o : Option Value), X 73 [some (.ref 0), some (.int (nI a)), some (.ref (37 + 6 * a)), some (.ref (37 + 6 * sbC h)), o] [] (gW M1 5 (idN n)) := by
      intro o
      have hpre : shPre kd (gW M1 5 (idN n)) (37 + 6 * sbC h + 1) 5 := ⟨(m1C.same (h' := gW M1 5 (idN n)) rfl rfl).2.2.2.2.2.1, m15, by omega, by
        show gn M1 5 = gn M1 (37 + 6 * sbC h + 1)
        rw [o2, m1n]⟩
      refine mv_go hX 5 ?_
      simp only [mv_wps, mv_exq, mv_exr, mv_exn, mv_xg, mv_xpi, mv_xpl, mv_xpr, mv_xc, mv_xc2, mv_xs, mv_9z, mv_cqs, mv_calls, mv_lgz, mv_stz, mv_kz, mv_cz, mv_fvs, mv_ats, mv_ics, mv_rz, mv_tz, mv_cns, mv_nfs, mv_fins, mv_det, mv_cc, mv_c0, Nat.reduceAdd, Nat.reduceEqDiff, Nat.reduceLT, Nat.reduceLeDiff, Nat.reduceSub, reduceIte, decide_false, decide_true, Bool.false_eq_true, List.map_cons, List.map_nil, List.sum_cons, List.sum_nil, true_and, and_true, true_or, or_true, false_or, or_false, false_and, and_false, true_implies, false_implies, implies_true, not_true_eq_false, not_false_eq_true, lg_cmp_ge, lg_cmp_le, lg_cmp_gt, lg_cmp_lt, lg_cmp_eq, qX6_reduce, flX6s, cIX6s, cLX6s, csX6_reduce, sX6_reduce, sX6_latticeAt, sX6_freeLattice, sX1_copy, sX3_ways, sX1_open, sX1_put, sX6_shortenAll, sX6_sortBySizes, sX6_keepIfSmall, ms_a, ms_aa, ms_ai, ms_aiil, K1, l1, l3, WR, p2, hpre]
      rintro v M ⟨rfl, m, hm, hch, hend⟩
      have mp := shCh_pre m _ _ hpre hch
      obtain ⟨q1, q2, q3⟩ := shCh_R m _ _ hch
      have qR : M.2.2 = h.2.2 := q2.trans (WR _)
      have zE : mW M (37 + 6 * sbC h + 1) 5 (brF (gn M (37 + 6 * sbC h + 1)) (gn M (37 + 6 * sbC h + 1) - 1) (gM M (37 + 6 * sbC h + 1), gM M 5)) = rdZ M (sbC h) := rfl
      have z1 : (rdZ M (sbC h)).1 = M1.1 := by
        show M.1 = M1.1
        rw [q1]
        rfl
      have zR : (rdZ M (sbC h)).2.2 = h.2.2 := qR
      have zC : laOk kd (rdZ M (sbC h)) (37 + 6 * sbC h) := m1C.same z1 (zR.trans m1R.symm)
      have z3 : gOk kd (rdZ M (sbC h)) 3 := m13.same z1 (zR.trans m1R.symm)
      have z5 : gOk kd (rdZ M (sbC h)) 5 := m15.same z1 (zR.trans m1R.symm)
      have z7 : (rdZ M (sbC h)).1 0 7 = h.1 0 7 := by rw [z1]; exact m17
      have zc : sbC (rdZ M (sbC h)) = sbC h := congrArg Int32.toNatClampNeg z7
      refine mv_go hX 40 ?_
      simp only [mv_wps, mv_exq, mv_exr, mv_exn, mv_xg, mv_xpi, mv_xpl, mv_xpr, mv_xc, mv_xc2, mv_xs, mv_9z, mv_cqs, mv_calls, mv_lgz, mv_stz, mv_kz, mv_cz, mv_fvs, mv_ats, mv_ics, mv_rz, mv_tz, mv_cns, mv_nfs, mv_fins, mv_det, mv_cc, mv_c0, Nat.reduceAdd, Nat.reduceEqDiff, Nat.reduceLT, Nat.reduceLeDiff, Nat.reduceSub, reduceIte, decide_false, decide_true, Bool.false_eq_true, List.map_cons, List.map_nil, List.sum_cons, List.sum_nil, true_and, and_true, true_or, or_true, false_or, or_false, false_and, and_false, true_implies, false_implies, implies_true, not_true_eq_false, not_false_eq_true, lg_cmp_ge, lg_cmp_le, lg_cmp_gt, lg_cmp_lt, lg_cmp_eq, qX6_reduce, flX6s, cIX6s, cLX6s, csX6_reduce, sX6_reduce, sX6_latticeAt, sX6_freeLattice, sX1_copy, sX3_ways, sX1_open, sX1_put, sX6_shortenAll, sX6_sortBySizes, sX6_keepIfSmall, ms_a, ms_aa, ms_ai, ms_aiil, K1, l1, l3, qR, p2, mp, zE, hS.1.1, z7, zc, hC, zC]
      rintro v h5 (⟨w1, rfl, hh⟩ | ⟨w1, rfl, h6, w2, hh⟩)
      · have mneg : (-1 : Int32) < 0 := by decide
        simp only [mv_wps, mv_exq, mv_exr, mv_exn, mv_xg, mv_xpi, mv_xpl, mv_xpr, mv_xc, mv_xc2, mv_xs, mv_9z, mv_cqs, mv_calls, mv_lgz, mv_stz, mv_kz, mv_cz, mv_fvs, mv_ats, mv_ics, mv_rz, mv_tz, mv_cns, mv_nfs, mv_fins, mv_det, mv_cc, mv_c0, Nat.reduceAdd, Nat.reduceEqDiff, Nat.reduceLT, Nat.reduceLeDiff, Nat.reduceSub, reduceIte, decide_false, decide_true, Bool.false_eq_true, List.map_cons, List.map_nil, List.sum_cons, List.sum_nil, true_and, and_true, true_or, or_true, false_or, or_false, false_and, and_false, true_implies, false_implies, implies_true, not_true_eq_false, not_false_eq_true, lg_cmp_ge, lg_cmp_le, lg_cmp_gt, lg_cmp_lt, lg_cmp_eq, qX6_reduce, flX6s, cIX6s, cLX6s, csX6_reduce, sX6_reduce, sX6_latticeAt, sX6_freeLattice, sX1_copy, sX3_ways, sX1_open, sX1_put, sX6_shortenAll, sX6_sortBySizes, sX6_keepIfSmall, ms_a, ms_aa, ms_ai, ms_aiil, K1, ca]
        refine ⟨fun _ => ?_, fun z => absurd mneg z⟩
        exact Or.inr ⟨hok, m, M, -1, h5, hm, by rw [rdE]; exact hch, hend, Or.inl ⟨w1, rfl, hh⟩, rfl, by rw [if_pos mneg]⟩
      · have ui : ∀ o, o ≠ 0 → o ≠ 37 + 6 * sbC h + 3 → h5.1 o 0 = (rdZ M (sbC h)).1 o 0 := fun o q0 q3 => by
          rw [hh, ← w2.2.1 o 0 (by omega)]
          simp [mv_si, q0]
        have uR : h5.2.2 = h.2.2 := by
          rw [hh]
          exact w2.1.trans zR
        have u3 : gOk kd h5 3 := gOk.by (ui 3 (by omega) (by omega)) (by rw [uR, zR]) z3
        have u5 : gOk kd h5 5 := gOk.by (ui 5 (by omega) (by omega)) (by rw [uR, zR]) z5
        simp only [mv_wps, mv_exq, mv_exr, mv_exn, mv_xg, mv_xpi, mv_xpl, mv_xpr, mv_xc, mv_xc2, mv_xs, mv_9z, mv_cqs, mv_calls, mv_lgz, mv_stz, mv_kz, mv_cz, mv_fvs, mv_ats, mv_ics, mv_rz, mv_tz, mv_cns, mv_nfs, mv_fins, mv_det, mv_cc, mv_c0, Nat.reduceAdd, Nat.reduceEqDiff, Nat.reduceLT, Nat.reduceLeDiff, Nat.reduceSub, reduceIte, decide_false, decide_true, Bool.false_eq_true, List.map_cons, List.map_nil, List.sum_cons, List.sum_nil, true_and, and_true, true_or, or_true, false_or, or_false, false_and, and_false, true_implies, false_implies, implies_true, not_true_eq_false, not_false_eq_true, lg_cmp_ge, lg_cmp_le, lg_cmp_gt, lg_cmp_lt, lg_cmp_eq, qX6_reduce, flX6s, cIX6s, cLX6s, csX6_reduce, sX6_reduce, sX6_latticeAt, sX6_freeLattice, sX1_copy, sX3_ways, sX1_open, sX1_put, sX6_shortenAll, sX6_sortBySizes, sX6_keepIfSmall, ms_a, ms_aa, ms_ai, ms_aiil, K1, p1, p2, uR, u3, u3.1, u5, u5.1, ca]
        have np : ¬ nI (sbC h) < 0 := nI_pos (by omega)
        refine ⟨fun z => absurd z np, fun _ => ⟨by omega, ?_⟩⟩
        exact Or.inr ⟨hok, m, M, nI (sbC h), h5, hm, by rw [rdE]; exact hch, hend, Or.inr ⟨w1, by rw [zc], h6, w2, by rw [zc]; exact hh⟩, rfl, by rw [if_neg np]⟩
    have loop : ∀ i, i ≤ n → X 46 [some (.ref 0), some (.int (nI a)), some (.ref (37 + 6 * a)), some (.ref (37 + 6 * sbC h)), some (.int (nI i))] [] (gW M1 5 (idN i)) := by
      refine mv_up n ?_
      intro i hi ih
      refine mv_go hX 3 ?_
      simp only [mv_wps, mv_exq, mv_exr, mv_exn, mv_xg, mv_xpi, mv_xpl, mv_xpr, mv_xc, mv_xc2, mv_xs, mv_9z, mv_cqs, mv_calls, mv_lgz, mv_stz, mv_kz, mv_cz, mv_fvs, mv_ats, mv_ics, mv_rz, mv_tz, mv_cns, mv_nfs, mv_fins, mv_det, mv_cc, mv_c0, Nat.reduceAdd, Nat.reduceEqDiff, Nat.reduceLT, Nat.reduceLeDiff, Nat.reduceSub, reduceIte, decide_false, decide_true, Bool.false_eq_true, List.map_cons, List.map_nil, List.sum_cons, List.sum_nil, true_and, and_true, true_or, or_true, false_or, or_false, false_and, and_false, true_implies, false_implies, implies_true, not_true_eq_false, not_false_eq_true, lg_cmp_ge, lg_cmp_le, lg_cmp_gt, lg_cmp_lt, lg_cmp_eq, qX6_reduce, flX6s, cIX6s, cLX6s, csX6_reduce, sX6_reduce, sX6_latticeAt, sX6_freeLattice, sX1_copy, sX3_ways, sX1_open, sX1_put, sX6_shortenAll, sX6_sortBySizes, sX6_keepIfSmall, ms_a, ms_aa, ms_ai, ms_aiil, K1, WA, a1, Wa, WR]
      refine ⟨fun z => ?_, fun z => ?_⟩
      · rw [nI_leI (by omega) (by omega)] at z
        obtain rfl : i = n := by omega
        exact tail _
      · rw [nI_leI (by omega) (by omega)] at z
        refine mv_go hX 20 ?_
        simp only [mv_wps, mv_exq, mv_exr, mv_exn, mv_xg, mv_xpi, mv_xpl, mv_xpr, mv_xc, mv_xc2, mv_xs, mv_9z, mv_cqs, mv_calls, mv_lgz, mv_stz, mv_kz, mv_cz, mv_fvs, mv_ats, mv_ics, mv_rz, mv_tz, mv_cns, mv_nfs, mv_fins, mv_det, mv_cc, mv_c0, Nat.reduceAdd, Nat.reduceEqDiff, Nat.reduceLT, Nat.reduceLeDiff, Nat.reduceSub, reduceIte, decide_false, decide_true, Bool.false_eq_true, List.map_cons, List.map_nil, List.sum_cons, List.sum_nil, true_and, and_true, true_or, or_true, false_or, or_false, false_and, and_false, true_implies, false_implies, implies_true, not_true_eq_false, not_false_eq_true, lg_cmp_ge, lg_cmp_le, lg_cmp_gt, lg_cmp_lt, lg_cmp_eq, qX6_reduce, flX6s, cIX6s, cLX6s, csX6_reduce, sX6_reduce, sX6_latticeAt, sX6_freeLattice, sX1_copy, sX3_ways, sX1_open, sX1_put, sX6_shortenAll, sX6_sortBySizes, sX6_keepIfSmall, ms_a, ms_aa, ms_ai, ms_aiil, K1, WR, p2, W5, m15.1, Wp i (by omega)]
        rw [nI_1]
        exact ih (by omega)
    refine mv_go hX 60 ?_
    simp only [mv_wps, mv_exq, mv_exr, mv_exn, mv_xg, mv_xpi, mv_xpl, mv_xpr, mv_xc, mv_xc2, mv_xs, mv_9z, mv_cqs, mv_calls, mv_lgz, mv_stz, mv_kz, mv_cz, mv_fvs, mv_ats, mv_ics, mv_rz, mv_tz, mv_cns, mv_nfs, mv_fins, mv_det, mv_cc, mv_c0, Nat.reduceAdd, Nat.reduceEqDiff, Nat.reduceLT, Nat.reduceLeDiff, Nat.reduceSub, reduceIte, decide_false, decide_true, Bool.false_eq_true, List.map_cons, List.map_nil, List.sum_cons, List.sum_nil, true_and, and_true, true_or, or_true, false_or, or_false, false_and, and_false, true_implies, false_implies, implies_true, not_true_eq_false, not_false_eq_true, lg_cmp_ge, lg_cmp_le, lg_cmp_gt, lg_cmp_lt, lg_cmp_eq, qX6_reduce, flX6s, cIX6s, cLX6s, csX6_reduce, sX6_reduce, sX6_latticeAt, sX6_freeLattice, sX1_copy, sX3_ways, sX1_open, sX1_put, sX6_shortenAll, sX6_sortBySizes, sX6_keepIfSmall, ms_a, ms_aa, ms_ai, ms_aiil, K1, hS, eF, eA, l1, l3, l6, l6.1, a1, a3, a6, a6.1, hM0, m0R, m0A, cpa, p2, m05, m05.1, hM1]
    have w := loop 0 (by omega)
    rw [← hM1, gOpen_W, hM1] at w
    exact ⟨ne, w⟩
  · by_cases hin : inR (sbC h) x1
    · have hf : ¬ sbC h < 20 := fun z => hok ⟨hin, z⟩
      have eF : sbFree h = .null := if_neg hf
      have eA : sbAt h x1 = .ref (37 + 6 * x1.toNatClampNeg) := if_pos hin
      refine mv_go hX 60 ?_
      simp only [mv_wps, mv_exq, mv_exr, mv_exn, mv_xg, mv_xpi, mv_xpl, mv_xpr, mv_xc, mv_xc2, mv_xs, mv_9z, mv_cqs, mv_calls, mv_lgz, mv_stz, mv_kz, mv_cz, mv_fvs, mv_ats, mv_ics, mv_rz, mv_tz, mv_cns, mv_nfs, mv_fins, mv_det, mv_cc, mv_c0, Nat.reduceAdd, Nat.reduceEqDiff, Nat.reduceLT, Nat.reduceLeDiff, Nat.reduceSub, reduceIte, decide_false, decide_true, Bool.false_eq_true, List.map_cons, List.map_nil, List.sum_cons, List.sum_nil, true_and, and_true, true_or, or_true, false_or, or_false, false_and, and_false, true_implies, false_implies, implies_true, not_true_eq_false, not_false_eq_true, lg_cmp_ge, lg_cmp_le, lg_cmp_gt, lg_cmp_lt, lg_cmp_eq, qX6_reduce, flX6s, cIX6s, cLX6s, csX6_reduce, sX6_reduce, sX6_latticeAt, sX6_freeLattice, sX1_copy, sX3_ways, sX1_open, sX1_put, sX6_shortenAll, sX6_sortBySizes, sX6_keepIfSmall, ms_a, ms_aa, ms_ai, ms_aiil, K1, hS, eF, eA]
      exact Or.inl hok
    · have eA : sbAt h x1 = .null := if_neg hin
      by_cases hf : sbC h < 20
      · have eF : sbFree h = .ref (37 + 6 * sbC h) := if_pos hf
        refine mv_go hX 60 ?_
        simp only [mv_wps, mv_exq, mv_exr, mv_exn, mv_xg, mv_xpi, mv_xpl, mv_xpr, mv_xc, mv_xc2, mv_xs, mv_9z, mv_cqs, mv_calls, mv_lgz, mv_stz, mv_kz, mv_cz, mv_fvs, mv_ats, mv_ics, mv_rz, mv_tz, mv_cns, mv_nfs, mv_fins, mv_det, mv_cc, mv_c0, Nat.reduceAdd, Nat.reduceEqDiff, Nat.reduceLT, Nat.reduceLeDiff, Nat.reduceSub, reduceIte, decide_false, decide_true, Bool.false_eq_true, List.map_cons, List.map_nil, List.sum_cons, List.sum_nil, true_and, and_true, true_or, or_true, false_or, or_false, false_and, and_false, true_implies, false_implies, implies_true, not_true_eq_false, not_false_eq_true, lg_cmp_ge, lg_cmp_le, lg_cmp_gt, lg_cmp_lt, lg_cmp_eq, qX6_reduce, flX6s, cIX6s, cLX6s, csX6_reduce, sX6_reduce, sX6_latticeAt, sX6_freeLattice, sX1_copy, sX3_ways, sX1_open, sX1_put, sX6_shortenAll, sX6_sortBySizes, sX6_keepIfSmall, ms_a, ms_aa, ms_ai, ms_aiil, K1, hS, eF, eA]
        exact Or.inl hok
      · have eF : sbFree h = .null := if_neg hf
        refine mv_go hX 60 ?_
        simp only [mv_wps, mv_exq, mv_exr, mv_exn, mv_xg, mv_xpi, mv_xpl, mv_xpr, mv_xc, mv_xc2, mv_xs, mv_9z, mv_cqs, mv_calls, mv_lgz, mv_stz, mv_kz, mv_cz, mv_fvs, mv_ats, mv_ics, mv_rz, mv_tz, mv_cns, mv_nfs, mv_fins, mv_det, mv_cc, mv_c0, Nat.reduceAdd, Nat.reduceEqDiff, Nat.reduceLT, Nat.reduceLeDiff, Nat.reduceSub, reduceIte, decide_false, decide_true, Bool.false_eq_true, List.map_cons, List.map_nil, List.sum_cons, List.sum_nil, true_and, and_true, true_or, or_true, false_or, or_false, false_and, and_false, true_implies, false_implies, implies_true, not_true_eq_false, not_false_eq_true, lg_cmp_ge, lg_cmp_le, lg_cmp_gt, lg_cmp_lt, lg_cmp_eq, qX6_reduce, flX6s, cIX6s, cLX6s, csX6_reduce, sX6_reduce, sX6_latticeAt, sX6_freeLattice, sX1_copy, sX3_ways, sX1_open, sX1_put, sX6_shortenAll, sX6_sortBySizes, sX6_keepIfSmall, ms_a, ms_aa, ms_ai, ms_aiil, K1, hS, eF, eA]
        exact Or.inl hok
