/-! Grids: places, changes, looks across. -/
def sX1_takePlaceAway (kd : List (Nat × Nat)) : mv_S := ms_aiil (fun g i k _ h => gOk kd h g ∧ isN i (gn h g) ∧ isN k (gn h g)) (fun g i k t h v h' => v = none ∧ gRow g h h' (fun r c => c = i.toNatClampNeg ∧ r < gn h g) (fun r _ => gE h g r i.toNatClampNeg - t * gE h g r k.toNatClampNeg))
def csX1_takePlaceAway (kd : List (Nat × Nat)) : mv_CS := (mv_cc 38 1 2 (sX1_at kd) (mv_cc 42 1 3 (sX1_put kd) mv_c0))
theorem oX1_takePlaceAway {l : Launch} {b : Nat} {ad : Nat → Nat} {D : va_G} {cA : Nat → ClassId} {kd : List (Nat × Nat)} (had : ∀ i, i < kd.length → ad i = b + i) : mv_Own l (mv_room 2) b ad D cA kd RX1 flX1 cIX1 cLX1 (csX1_takePlaceAway kd) := (mv_oV lRX1_38 zX1_at rfl (by decide) (ctX1_at had) ⟨by decide, by decide⟩ (mv_oV lRX1_42 zX1_put rfl (by decide) (ctX1_put had) ⟨by decide, by decide⟩ (mv_o0 flX1_ok cIX1_ok cLX1_ok)))
set_option maxRecDepth 100000 in
set_option maxHeartbeats 4000000 in
theorem ctX1_takePlaceAway {l : Launch} {b : Nat} {ad : Nat → Nat} {D : va_G} {cA : Nat → ClassId} {kd : List (Nat × Nat)} (had : ∀ i, i < kd.length → ad i = b + i) : mv_Ct l b ad D cA kd yX1_takePlaceAway cX1_takePlaceAway 6 none 2 (sX1_takePlaceAway kd) := by
  refine mv_introF (rk := 0) tX1_takePlaceAway (mv_pf plRX1) kX1_takePlaceAway had ⟨(fun _ => rfl), (fun e => by cases e), (fun e => by cases e), (fun e => by cases e), (fun e => by cases e)⟩ (oX1_takePlaceAway had) ?_
  intro h as hp
  obtain ⟨x0, x1, x2, x3, rfl, hq⟩ := ms_aiil_inv hp
  refine ⟨Nat.le_of_ble_eq_true rfl, fun X hX => ?_⟩
  show X 0 [some (.ref x0), some (.int x1), some (.int x2), some (.long x3), none, none] [] h
  obtain ⟨hg, ⟨e1, h1⟩, ⟨e2, h2⟩⟩ := hq
  generalize hi : x1.toNatClampNeg = i at e1 h1
  generalize hk : x2.toNatClampNeg = k at e2 h2
  subst e1
  subst e2
  have hn4 := hg.2.2.2.2
  have loop : ∀ c, c ≤ gn h x0 → ∀ hc, gRow x0 h hc (fun r q => q = i ∧ r < c) (fun r _ => gE h x0 r i - x3 * gE h x0 r k) → X 3 [some (.ref x0), some (.int (nI i)), some (.int (nI k)), some (.long x3), none, some (.int (nI c))] [] hc := by
    refine mv_up (gn h x0) ?_
    intro c hcn ih hc z
    have hgc := z.1.ok hg
    have egn : gn hc x0 = gn h x0 := z.1.gn
    refine mv_go hX 60 ?_
    simp only [mv_wps, mv_exq, mv_exr, mv_exn, mv_xg, mv_xpi, mv_xpl, mv_xpr, mv_xc, mv_xc2, mv_xs, mv_9z, mv_cqs, mv_calls, mv_lgz, mv_stz, mv_kz, mv_cz, mv_fvs, mv_ats, mv_ics, mv_rz, mv_tz, mv_cns, mv_nfs, mv_fins, mv_det, mv_cc, mv_c0, Nat.reduceAdd, Nat.reduceEqDiff, Nat.reduceLT, Nat.reduceLeDiff, Nat.reduceSub, reduceIte, decide_false, decide_true, Bool.false_eq_true, List.map_cons, List.map_nil, List.sum_cons, List.sum_nil, true_and, and_true, true_or, or_true, false_or, or_false, false_and, and_false, true_implies, false_implies, implies_true, not_true_eq_false, not_false_eq_true, lg_cmp_ge, lg_cmp_le, lg_cmp_gt, lg_cmp_lt, lg_cmp_eq, qX1_takePlaceAway, flX1s, cIX1s, cLX1s, csX1_takePlaceAway, sX1_takePlaceAway, sX1_at, sX1_put, ms_aii, ms_aiil, hg.1, hgc, hgc.2.2.2.1, egn]
    refine ⟨fun hcc => ?_, fun hcc => ?_⟩
    · rw [nI_leI (by omega) (by omega)] at hcc
      obtain rfl : c = gn h x0 := by omega
      rw [hi, hk]
      exact z
    · rw [nI_leI (by omega) (by omega)] at hcc
      rw [nI_1, gAt_in (by omega) (by omega) (by omega), gAt_in (by omega) (by omega) (by omega), gPut_nI (by omega) (by omega) (by omega)]
      refine ih (by omega) _ (z.put (by omega) (by omega) _ ?_ ?_)
      · rw [(z.2 c i (by omega) (by omega)).2 (fun q => by omega)]
        by_cases e : k = i
        · rw [e, (z.2 c i (by omega) (by omega)).2 (fun q => by omega)]
        · rw [(z.2 c k (by omega) (by omega)).2 (fun q => by omega)]
      · intro r q
        omega
  refine mv_go hX 60 ?_
  simp only [mv_wps, mv_exq, mv_exr, mv_exn, mv_xg, mv_xpi, mv_xpl, mv_xpr, mv_xc, mv_xc2, mv_xs, mv_9z, mv_cqs, mv_calls, mv_lgz, mv_stz, mv_kz, mv_cz, mv_fvs, mv_ats, mv_ics, mv_rz, mv_tz, mv_cns, mv_nfs, mv_fins, mv_det, mv_cc, mv_c0, Nat.reduceAdd, Nat.reduceEqDiff, Nat.reduceLT, Nat.reduceLeDiff, Nat.reduceSub, reduceIte, decide_false, decide_true, Bool.false_eq_true, List.map_cons, List.map_nil, List.sum_cons, List.sum_nil, true_and, and_true, true_or, or_true, false_or, or_false, false_and, and_false, true_implies, false_implies, implies_true, not_true_eq_false, not_false_eq_true, lg_cmp_ge, lg_cmp_le, lg_cmp_gt, lg_cmp_lt, lg_cmp_eq, qX1_takePlaceAway, flX1s, cIX1s, cLX1s, csX1_takePlaceAway, sX1_takePlaceAway, sX1_at, sX1_put, ms_aii, ms_aiil, hg.1, hg, hg.2.2.2.1]
  exact loop 0 (by omega) h (gRow.rf x0 h (fun r c => by omega))
def sX1_swapLines (kd : List (Nat × Nat)) : mv_S := ms_aii (fun g i k h => gOk kd h g ∧ isN i (gn h g) ∧ isN k (gn h g) ∧ i.toNatClampNeg ≠ k.toNatClampNeg) (fun g i k h v h' => v = none ∧ gRow g h h' (fun r c => (r = i.toNatClampNeg ∨ r = k.toNatClampNeg) ∧ c < gn h g) (fun r c => gE h g (if r = i.toNatClampNeg then k.toNatClampNeg else i.toNatClampNeg) c))
def csX1_swapLines (kd : List (Nat × Nat)) : mv_CS := (mv_cc 38 1 2 (sX1_at kd) (mv_cc 42 1 3 (sX1_put kd) mv_c0))
theorem oX1_swapLines {l : Launch} {b : Nat} {ad : Nat → Nat} {D : va_G} {cA : Nat → ClassId} {kd : List (Nat × Nat)} (had : ∀ i, i < kd.length → ad i = b + i) : mv_Own l (mv_room 2) b ad D cA kd RX1 flX1 cIX1 cLX1 (csX1_swapLines kd) := (mv_oV lRX1_38 zX1_at rfl (by decide) (ctX1_at had) ⟨by decide, by decide⟩ (mv_oV lRX1_42 zX1_put rfl (by decide) (ctX1_put had) ⟨by decide, by decide⟩ (mv_o0 flX1_ok cIX1_ok cLX1_ok)))
set_option maxRecDepth 100000 in
set_option maxHeartbeats 4000000 in
theorem ctX1_swapLines {l : Launch} {b : Nat} {ad : Nat → Nat} {D : va_G} {cA : Nat → ClassId} {kd : List (Nat × Nat)} (had : ∀ i, i < kd.length → ad i = b + i) : mv_Ct l b ad D cA kd yX1_swapLines cX1_swapLines 6 none 2 (sX1_swapLines kd) := by
  refine mv_introF (rk := 0) tX1_swapLines (mv_pf plRX1) kX1_swapLines had ⟨(fun _ => rfl), (fun e => by cases e), (fun e => by cases e), (fun e => by cases e), (fun e => by cases e)⟩ (oX1_swapLines had) ?_
  intro h as hp
  obtain ⟨x0, x1, x2, rfl, hq⟩ := ms_aii_inv hp
  refine ⟨Nat.le_of_ble_eq_true rfl, fun X hX => ?_⟩
  show X 0 [some (.ref x0), some (.int x1), some (.int x2), none, none, none] [] h
  obtain ⟨hg, ⟨e1, h1⟩, ⟨e2, h2⟩, hne⟩ := hq
  generalize hi : x1.toNatClampNeg = i at e1 h1 hne
  generalize hk : x2.toNatClampNeg = k at e2 h2 hne
  subst e1
  subst e2
  have hn4 := hg.2.2.2.2
  have loop : ∀ c, c ≤ gn h x0 → ∀ hc o o', gRow x0 h hc (fun r q => (r = i ∨ r = k) ∧ q < c) (fun r q => gE h x0 (if r = i then k else i) q) → X 2 [some (.ref x0), some (.int (nI i)), some (.int (nI k)), some (.int (nI c)), o, o'] [] hc := by
    refine mv_up (gn h x0) ?_
    intro c hcn ih hc o o' z
    have hgc := z.1.ok hg
    have egn : gn hc x0 = gn h x0 := z.1.gn
    refine mv_go hX 60 ?_
    have hput : ∀ a q v, a < gn h x0 → q < gn h x0 → gOk kd (gPut hc x0 (nI a) (nI q) v) x0 ∧ gn (gPut hc x0 (nI a) (nI q) v) x0 = gn h x0 := by
      intro a q v ha hq
      rw [gPut_nI (by omega) (by omega) (by omega)]
      have w : gFr x0 hc (mv_sl hc (x0 + 1) (4 * a + q) v) := gFr.sl (by omega) (by omega)
      exact ⟨w.ok hgc, w.gn.trans egn⟩
    simp only [mv_wps, mv_exq, mv_exr, mv_exn, mv_xg, mv_xpi, mv_xpl, mv_xpr, mv_xc, mv_xc2, mv_xs, mv_9z, mv_cqs, mv_calls, mv_lgz, mv_stz, mv_kz, mv_cz, mv_fvs, mv_ats, mv_ics, mv_rz, mv_tz, mv_cns, mv_nfs, mv_fins, mv_det, mv_cc, mv_c0, Nat.reduceAdd, Nat.reduceEqDiff, Nat.reduceLT, Nat.reduceLeDiff, Nat.reduceSub, reduceIte, decide_false, decide_true, Bool.false_eq_true, List.map_cons, List.map_nil, List.sum_cons, List.sum_nil, true_and, and_true, true_or, or_true, false_or, or_false, false_and, and_false, true_implies, false_implies, implies_true, not_true_eq_false, not_false_eq_true, lg_cmp_ge, lg_cmp_le, lg_cmp_gt, lg_cmp_lt, lg_cmp_eq, qX1_swapLines, flX1s, cIX1s, cLX1s, csX1_swapLines, sX1_swapLines, sX1_at, sX1_put, ms_aii, ms_aiil, hg.1, hgc, hgc.2.2.2.1, egn]
    refine ⟨fun hcc => ?_, fun hcc => ?_⟩
    · rw [nI_leI (by omega) (by omega)] at hcc
      obtain rfl : c = gn h x0 := by omega
      rw [hi, hk]
      exact z
    · rw [nI_leI (by omega) (by omega)] at hcc
      have p1 := hput i c (gAt hc x0 (nI k) (nI c)) (by omega) (by omega)
      refine ⟨p1.1, ?_⟩
      rw [nI_1, gPut_nI (by rw [p1.2]; omega) (by rw [p1.2]; omega) (by rw [p1.2]; omega), gPut_nI (by omega) (by omega) (by omega), gAt_in (by omega) (by omega) (by omega), gAt_in (by omega) (by omega) (by omega)]
      refine ih (by omega) _ _ _ ((z.put (P' := fun r q => ((r = i ∨ r = k) ∧ q < c) ∨ (r = i ∧ q = c)) (by omega) (by omega) _ ?_ ?_).put (by omega) (by omega) _ ?_ ?_)
      · rw [(z.2 k c (by omega) (by omega)).2 (fun q => by omega), if_pos rfl]
      · intro r q
        exact Iff.rfl
      · rw [(z.2 i c (by omega) (by omega)).2 (fun q => by omega), if_neg (fun e => hne e.symm)]
      · intro r q
        omega
  refine mv_go hX 60 ?_
  simp only [mv_wps, mv_exq, mv_exr, mv_exn, mv_xg, mv_xpi, mv_xpl, mv_xpr, mv_xc, mv_xc2, mv_xs, mv_9z, mv_cqs, mv_calls, mv_lgz, mv_stz, mv_kz, mv_cz, mv_fvs, mv_ats, mv_ics, mv_rz, mv_tz, mv_cns, mv_nfs, mv_fins, mv_det, mv_cc, mv_c0, Nat.reduceAdd, Nat.reduceEqDiff, Nat.reduceLT, Nat.reduceLeDiff, Nat.reduceSub, reduceIte, decide_false, decide_true, Bool.false_eq_true, List.map_cons, List.map_nil, List.sum_cons, List.sum_nil, true_and, and_true, true_or, or_true, false_or, or_false, false_and, and_false, true_implies, false_implies, implies_true, not_true_eq_false, not_false_eq_true, lg_cmp_ge, lg_cmp_le, lg_cmp_gt, lg_cmp_lt, lg_cmp_eq, qX1_swapLines, flX1s, cIX1s, cLX1s, csX1_swapLines, sX1_swapLines, sX1_at, sX1_put, ms_aii, ms_aiil, hg.1, hg, hg.2.2.2.1]
  exact loop 0 (by omega) h _ _ (gRow.rf x0 h (fun r c => by omega))
def sX1_swapPlaces (kd : List (Nat × Nat)) : mv_S := ms_aii (fun g i k h => gOk kd h g ∧ isN i (gn h g) ∧ isN k (gn h g) ∧ i.toNatClampNeg ≠ k.toNatClampNeg) (fun g i k h v h' => v = none ∧ gRow g h h' (fun r c => (c = i.toNatClampNeg ∨ c = k.toNatClampNeg) ∧ r < gn h g) (fun r c => gE h g r (if c = i.toNatClampNeg then k.toNatClampNeg else i.toNatClampNeg)))
def csX1_swapPlaces (kd : List (Nat × Nat)) : mv_CS := (mv_cc 38 1 2 (sX1_at kd) (mv_cc 42 1 3 (sX1_put kd) mv_c0))
theorem oX1_swapPlaces {l : Launch} {b : Nat} {ad : Nat → Nat} {D : va_G} {cA : Nat → ClassId} {kd : List (Nat × Nat)} (had : ∀ i, i < kd.length → ad i = b + i) : mv_Own l (mv_room 2) b ad D cA kd RX1 flX1 cIX1 cLX1 (csX1_swapPlaces kd) := (mv_oV lRX1_38 zX1_at rfl (by decide) (ctX1_at had) ⟨by decide, by decide⟩ (mv_oV lRX1_42 zX1_put rfl (by decide) (ctX1_put had) ⟨by decide, by decide⟩ (mv_o0 flX1_ok cIX1_ok cLX1_ok)))
set_option maxRecDepth 100000 in
set_option maxHeartbeats 4000000 in
theorem ctX1_swapPlaces {l : Launch} {b : Nat} {ad : Nat → Nat} {D : va_G} {cA : Nat → ClassId} {kd : List (Nat × Nat)} (had : ∀ i, i < kd.length → ad i = b + i) : mv_Ct l b ad D cA kd yX1_swapPlaces cX1_swapPlaces 6 none 2 (sX1_swapPlaces kd) := by
  refine mv_introF (rk := 0) tX1_swapPlaces (mv_pf plRX1) kX1_swapPlaces had ⟨(fun _ => rfl), (fun e => by cases e), (fun e => by cases e), (fun e => by cases e), (fun e => by cases e)⟩ (oX1_swapPlaces had) ?_
  intro h as hp
  obtain ⟨x0, x1, x2, rfl, hq⟩ := ms_aii_inv hp
  refine ⟨Nat.le_of_ble_eq_true rfl, fun X hX => ?_⟩
  show X 0 [some (.ref x0), some (.int x1), some (.int x2), none, none, none] [] h
  obtain ⟨hg, ⟨e1, h1⟩, ⟨e2, h2⟩, hne⟩ := hq
  generalize hi : x1.toNatClampNeg = i at e1 h1 hne
  generalize hk : x2.toNatClampNeg = k at e2 h2 hne
  subst e1
  subst e2
  have hn4 := hg.2.2.2.2
  have loop : ∀ c, c ≤ gn h x0 → ∀ hc o o', gRow x0 h hc (fun r q => (q = i ∨ q = k) ∧ r < c) (fun r q => gE h x0 r (if q = i then k else i)) → X 2 [some (.ref x0), some (.int (nI i)), some (.int (nI k)), some (.int (nI c)), o, o'] [] hc := by
    refine mv_up (gn h x0) ?_
    intro c hcn ih hc o o' z
    have hgc := z.1.ok hg
    have egn : gn hc x0 = gn h x0 := z.1.gn
    refine mv_go hX 60 ?_
    have hput : ∀ a q v, a < gn h x0 → q < gn h x0 → gOk kd (gPut hc x0 (nI a) (nI q) v) x0 ∧ gn (gPut hc x0 (nI a) (nI q) v) x0 = gn h x0 := by
      intro a q v ha hq
      rw [gPut_nI (by omega) (by omega) (by omega)]
      have w : gFr x0 hc (mv_sl hc (x0 + 1) (4 * a + q) v) := gFr.sl (by omega) (by omega)
      exact ⟨w.ok hgc, w.gn.trans egn⟩
    simp only [mv_wps, mv_exq, mv_exr, mv_exn, mv_xg, mv_xpi, mv_xpl, mv_xpr, mv_xc, mv_xc2, mv_xs, mv_9z, mv_cqs, mv_calls, mv_lgz, mv_stz, mv_kz, mv_cz, mv_fvs, mv_ats, mv_ics, mv_rz, mv_tz, mv_cns, mv_nfs, mv_fins, mv_det, mv_cc, mv_c0, Nat.reduceAdd, Nat.reduceEqDiff, Nat.reduceLT, Nat.reduceLeDiff, Nat.reduceSub, reduceIte, decide_false, decide_true, Bool.false_eq_true, List.map_cons, List.map_nil, List.sum_cons, List.sum_nil, true_and, and_true, true_or, or_true, false_or, or_false, false_and, and_false, true_implies, false_implies, implies_true, not_true_eq_false, not_false_eq_true, lg_cmp_ge, lg_cmp_le, lg_cmp_gt, lg_cmp_lt, lg_cmp_eq, qX1_swapPlaces, flX1s, cIX1s, cLX1s, csX1_swapPlaces, sX1_swapPlaces, sX1_at, sX1_put, ms_aii, ms_aiil, hg.1, hgc, hgc.2.2.2.1, egn]
    refine ⟨fun hcc => ?_, fun hcc => ?_⟩
    · rw [nI_leI (by omega) (by omega)] at hcc
      obtain rfl : c = gn h x0 := by omega
      rw [hi, hk]
      exact z
    · rw [nI_leI (by omega) (by omega)] at hcc
      have p1 := hput c i (gAt hc x0 (nI c) (nI k)) (by omega) (by omega)
      refine ⟨p1.1, ?_⟩
      rw [nI_1, gPut_nI (by rw [p1.2]; omega) (by rw [p1.2]; omega) (by rw [p1.2]; omega), gPut_nI (by omega) (by omega) (by omega), gAt_in (by omega) (by omega) (by omega), gAt_in (by omega) (by omega) (by omega)]
      refine ih (by omega) _ _ _ ((z.put (P' := fun r q => ((q = i ∨ q = k) ∧ r < c) ∨ (r = c ∧ q = i)) (by omega) (by omega) _ ?_ ?_).put (by omega) (by omega) _ ?_ ?_)
      · rw [(z.2 c k (by omega) (by omega)).2 (fun q => by omega), if_pos rfl]
      · intro r q
        exact Iff.rfl
      · rw [(z.2 c i (by omega) (by omega)).2 (fun q => by omega), if_neg (fun e => hne e.symm)]
      · intro r q
        omega
  refine mv_go hX 60 ?_
  simp only [mv_wps, mv_exq, mv_exr, mv_exn, mv_xg, mv_xpi, mv_xpl, mv_xpr, mv_xc, mv_xc2, mv_xs, mv_9z, mv_cqs, mv_calls, mv_lgz, mv_stz, mv_kz, mv_cz, mv_fvs, mv_ats, mv_ics, mv_rz, mv_tz, mv_cns, mv_nfs, mv_fins, mv_det, mv_cc, mv_c0, Nat.reduceAdd, Nat.reduceEqDiff, Nat.reduceLT, Nat.reduceLeDiff, Nat.reduceSub, reduceIte, decide_false, decide_true, Bool.false_eq_true, List.map_cons, List.map_nil, List.sum_cons, List.sum_nil, true_and, and_true, true_or, or_true, false_or, or_false, false_and, and_false, true_implies, false_implies, implies_true, not_true_eq_false, not_false_eq_true, lg_cmp_ge, lg_cmp_le, lg_cmp_gt, lg_cmp_lt, lg_cmp_eq, qX1_swapPlaces, flX1s, cIX1s, cLX1s, csX1_swapPlaces, sX1_swapPlaces, sX1_at, sX1_put, ms_aii, ms_aiil, hg.1, hg, hg.2.2.2.1]
  exact loop 0 (by omega) h _ _ (gRow.rf x0 h (fun r c => by omega))
def gEven (h : mv_M) (g : Nat) : Prop := ∀ i, i < gn h g → gE h g i i - gE h g i i / 2 * 2 = 0
noncomputable def sX1_isEvenAcross (kd : List (Nat × Nat)) : mv_S := ms_a (fun g h => gOk kd h g) (fun g h v h' => v = some (.int (b01 (gEven h g))) ∧ h' = h)
def csX1_isEvenAcross (kd : List (Nat × Nat)) : mv_CS := (mv_cc 38 1 2 (sX1_at kd) mv_c0)
theorem oX1_isEvenAcross {l : Launch} {b : Nat} {ad : Nat → Nat} {D : va_G} {cA : Nat → ClassId} {kd : List (Nat × Nat)} (had : ∀ i, i < kd.length → ad i = b + i) : mv_Own l (mv_room 2) b ad D cA kd RX1 flX1 cIX1 cLX1 (csX1_isEvenAcross kd) := (mv_oV lRX1_38 zX1_at rfl (by decide) (ctX1_at had) ⟨by decide, by decide⟩ (mv_o0 flX1_ok cIX1_ok cLX1_ok))
set_option maxRecDepth 100000 in
set_option maxHeartbeats 4000000 in
theorem ctX1_isEvenAcross {l : Launch} {b : Nat} {ad : Nat → Nat} {D : va_G} {cA : Nat → ClassId} {kd : List (Nat × Nat)} (had : ∀ i, i < kd.length → ad i = b + i) : mv_Ct l b ad D cA kd yX1_isEvenAcross cX1_isEvenAcross 2 (some .boolean) 2 (sX1_isEvenAcross kd) := by
  refine mv_introF (rk := 2) tX1_isEvenAcross (mv_pf plRX1) kX1_isEvenAcross had ⟨(fun e => by cases e), (fun e => by cases e), (fun _ => rfl), (fun e => by cases e), (fun e => by cases e)⟩ (oX1_isEvenAcross had) ?_
  intro h as hp
  obtain ⟨x0, rfl, hq⟩ := ms_a_inv hp
  refine ⟨Nat.le_of_ble_eq_true rfl, fun X hX => ?_⟩
  show X 0 [some (.ref x0), none] [] h
  have hn4 := hq.2.2.2.2
  have loop : ∀ i, i ≤ gn h x0 → (∀ j, j < i → gE h x0 j j - gE h x0 j j / 2 * 2 = 0) → X 2 [some (.ref x0), some (.int (nI i))] [] h := by
    refine mv_up (gn h x0) ?_
    intro i hi ih hall
    refine mv_go hX 60 ?_
    simp only [mv_wps, mv_exq, mv_exr, mv_exn, mv_xg, mv_xpi, mv_xpl, mv_xpr, mv_xc, mv_xc2, mv_xs, mv_9z, mv_cqs, mv_calls, mv_lgz, mv_stz, mv_kz, mv_cz, mv_fvs, mv_ats, mv_ics, mv_rz, mv_tz, mv_cns, mv_nfs, mv_fins, mv_det, mv_cc, mv_c0, Nat.reduceAdd, Nat.reduceEqDiff, Nat.reduceLT, Nat.reduceLeDiff, Nat.reduceSub, reduceIte, decide_false, decide_true, Bool.false_eq_true, List.map_cons, List.map_nil, List.sum_cons, List.sum_nil, true_and, and_true, true_or, or_true, false_or, or_false, false_and, and_false, true_implies, false_implies, implies_true, not_true_eq_false, not_false_eq_true, lg_cmp_ge, lg_cmp_le, lg_cmp_gt, lg_cmp_lt, lg_cmp_eq, qX1_isEvenAcross, flX1s, cIX1s, cLX1s, csX1_isEvenAcross, sX1_isEvenAcross, sX1_at, ms_a, ms_aii, hq.1, hq, hq.2.2.2.1]
    refine ⟨fun hc => ?_, fun hc => ?_⟩
    · rw [nI_leI (by omega) (by omega)] at hc
      obtain rfl : i = gn h x0 := by omega
      rw [b01_t (p := gEven h x0) hall]
    · rw [nI_leI (by omega) (by omega)] at hc
      rw [gAt_in (by omega) (by omega) (by omega)]
      refine ⟨by decide, fun h1 => ?_, fun h1 => by rw [b01_f (p := gEven h x0) (fun z => h1 (z i (by omega)))]⟩
      rw [nI_1]
      refine ih (by omega) (fun j hj => ?_)
      by_cases hji : j = i
      · subst hji; exact h1
      · exact hall j (by omega)
  refine mv_go hX 60 ?_
  simp only [mv_wps, mv_exq, mv_exr, mv_exn, mv_xg, mv_xpi, mv_xpl, mv_xpr, mv_xc, mv_xc2, mv_xs, mv_9z, mv_cqs, mv_calls, mv_lgz, mv_stz, mv_kz, mv_cz, mv_fvs, mv_ats, mv_ics, mv_rz, mv_tz, mv_cns, mv_nfs, mv_fins, mv_det, mv_cc, mv_c0, Nat.reduceAdd, Nat.reduceEqDiff, Nat.reduceLT, Nat.reduceLeDiff, Nat.reduceSub, reduceIte, decide_false, decide_true, Bool.false_eq_true, List.map_cons, List.map_nil, List.sum_cons, List.sum_nil, true_and, and_true, true_or, or_true, false_or, or_false, false_and, and_false, true_implies, false_implies, implies_true, not_true_eq_false, not_false_eq_true, lg_cmp_ge, lg_cmp_le, lg_cmp_gt, lg_cmp_lt, lg_cmp_eq, qX1_isEvenAcross, flX1s, cIX1s, cLX1s, csX1_isEvenAcross, sX1_isEvenAcross, sX1_at, ms_a, ms_aii, hq.1, hq, hq.2.2.2.1]
  exact loop 0 (by omega) (fun j z => absurd z (by omega))
def foldL (op : Int64 → Int64 → Int64) (f : Nat → Int64) : Nat → Int64
  | 0 => f 0
  | n + 1 => op (foldL op f n) (f (n + 1))
def sX1_leastAcross (kd : List (Nat × Nat)) : mv_S := ms_a (fun g h => gOk kd h g ∧ 0 < gn h g) (fun g h v h' => v = some (.int (foldL jMinL (fun i => gE h g i i) (gn h g - 1)).toInt32) ∧ h' = h)
def csX1_leastAcross (kd : List (Nat × Nat)) : mv_CS := (mv_cc 38 1 2 (sX1_at kd) (mv_cc 60 99 2 (sJ9_min_f86c9 kd) mv_c0))
theorem oX1_leastAcross {l : Launch} {b : Nat} {ad : Nat → Nat} {D : va_G} {cA : Nat → ClassId} {kd : List (Nat × Nat)} (had : ∀ i, i < kd.length → ad i = b + i) : mv_Own l (mv_room 2) b ad D cA kd RX1 flX1 cIX1 cLX1 (csX1_leastAcross kd) := (mv_oV lRX1_38 zX1_at rfl (by decide) (ctX1_at had) ⟨by decide, by decide⟩ (mv_oS lRX1_60 zJ9_min_f86c9 (ctJ9_min_f86c9 had) ⟨by decide, by decide⟩ (mv_o0 flX1_ok cIX1_ok cLX1_ok)))
set_option maxRecDepth 100000 in
set_option maxHeartbeats 4000000 in
theorem ctX1_leastAcross {l : Launch} {b : Nat} {ad : Nat → Nat} {D : va_G} {cA : Nat → ClassId} {kd : List (Nat × Nat)} (had : ∀ i, i < kd.length → ad i = b + i) : mv_Ct l b ad D cA kd yX1_leastAcross cX1_leastAcross 4 (some .int) 2 (sX1_leastAcross kd) := by
  refine mv_introF (rk := 1) tX1_leastAcross (mv_pf plRX1) kX1_leastAcross had ⟨(fun e => by cases e), (fun _ => rfl), (fun e => by cases e), (fun e => by cases e), (fun e => by cases e)⟩ (oX1_leastAcross had) ?_
  intro h as hp
  obtain ⟨x0, rfl, hq⟩ := ms_a_inv hp
  refine ⟨Nat.le_of_ble_eq_true rfl, fun X hX => ?_⟩
  show X 0 [some (.ref x0), none, none, none] [] h
  obtain ⟨hg, hpos⟩ := hq
  have hn4 := hg.2.2.2.2
  have loop : ∀ i, i ≤ gn h x0 - 1 → X 9 [some (.ref x0), some (.long (foldL jMinL (fun i => gE h x0 i i) i)), none, some (.int (nI (i + 1)))] [] h := by
    refine mv_up (gn h x0 - 1) ?_
    intro i hi ih
    refine mv_go hX 60 ?_
    simp only [mv_wps, mv_exq, mv_exr, mv_exn, mv_xg, mv_xpi, mv_xpl, mv_xpr, mv_xc, mv_xc2, mv_xs, mv_9z, mv_cqs, mv_calls, mv_lgz, mv_stz, mv_kz, mv_cz, mv_fvs, mv_ats, mv_ics, mv_rz, mv_tz, mv_cns, mv_nfs, mv_fins, mv_det, mv_cc, mv_c0, Nat.reduceAdd, Nat.reduceEqDiff, Nat.reduceLT, Nat.reduceLeDiff, Nat.reduceSub, reduceIte, decide_false, decide_true, Bool.false_eq_true, List.map_cons, List.map_nil, List.sum_cons, List.sum_nil, true_and, and_true, true_or, or_true, false_or, or_false, false_and, and_false, true_implies, false_implies, implies_true, not_true_eq_false, not_false_eq_true, lg_cmp_ge, lg_cmp_le, lg_cmp_gt, lg_cmp_lt, lg_cmp_eq, qX1_leastAcross, flX1s, cIX1s, cLX1s, csX1_leastAcross, sX1_leastAcross, sX1_at, sJ9_min_f86c9, ms_a, ms_aii, ms_ll, hg.1, hg, hg.2.2.2.1]
    refine ⟨fun hc => ?_, fun hc => ?_⟩
    · rw [nI_leI (by omega) (by omega)] at hc
      obtain rfl : i = gn h x0 - 1 := by omega
      rfl
    · rw [nI_leI (by omega) (by omega)] at hc
      rw [gAt_in (by omega) (by omega) (by omega), nI_1]
      exact ih (by omega)
  refine mv_go hX 60 ?_
  simp only [mv_wps, mv_exq, mv_exr, mv_exn, mv_xg, mv_xpi, mv_xpl, mv_xpr, mv_xc, mv_xc2, mv_xs, mv_9z, mv_cqs, mv_calls, mv_lgz, mv_stz, mv_kz, mv_cz, mv_fvs, mv_ats, mv_ics, mv_rz, mv_tz, mv_cns, mv_nfs, mv_fins, mv_det, mv_cc, mv_c0, Nat.reduceAdd, Nat.reduceEqDiff, Nat.reduceLT, Nat.reduceLeDiff, Nat.reduceSub, reduceIte, decide_false, decide_true, Bool.false_eq_true, List.map_cons, List.map_nil, List.sum_cons, List.sum_nil, true_and, and_true, true_or, or_true, false_or, or_false, false_and, and_false, true_implies, false_implies, implies_true, not_true_eq_false, not_false_eq_true, lg_cmp_ge, lg_cmp_le, lg_cmp_gt, lg_cmp_lt, lg_cmp_eq, qX1_leastAcross, flX1s, cIX1s, cLX1s, csX1_leastAcross, sX1_leastAcross, sX1_at, sJ9_min_f86c9, ms_a, ms_aii, ms_ll, hg.1, hg, hg.2.2.2.1]
  have e0 : gAt h x0 0 0 = gE h x0 0 0 := by
    rw [← nI_0]
    exact gAt_in (by omega) (by omega) (by omega)
  rw [e0]
  exact loop 0 (by omega)
def sX1_greatestAcross (kd : List (Nat × Nat)) : mv_S := ms_a (fun g h => gOk kd h g ∧ 0 < gn h g) (fun g h v h' => v = some (.int (foldL jMaxL (fun i => gE h g i i) (gn h g - 1)).toInt32) ∧ h' = h)
def csX1_greatestAcross (kd : List (Nat × Nat)) : mv_CS := (mv_cc 38 1 2 (sX1_at kd) (mv_cc 63 99 2 (sJ9_max_f86c9 kd) mv_c0))
theorem oX1_greatestAcross {l : Launch} {b : Nat} {ad : Nat → Nat} {D : va_G} {cA : Nat → ClassId} {kd : List (Nat × Nat)} (had : ∀ i, i < kd.length → ad i = b + i) : mv_Own l (mv_room 2) b ad D cA kd RX1 flX1 cIX1 cLX1 (csX1_greatestAcross kd) := (mv_oV lRX1_38 zX1_at rfl (by decide) (ctX1_at had) ⟨by decide, by decide⟩ (mv_oS lRX1_63 zJ9_max_f86c9 (ctJ9_max_f86c9 had) ⟨by decide, by decide⟩ (mv_o0 flX1_ok cIX1_ok cLX1_ok)))
set_option maxRecDepth 100000 in
set_option maxHeartbeats 4000000 in
theorem ctX1_greatestAcross {l : Launch} {b : Nat} {ad : Nat → Nat} {D : va_G} {cA : Nat → ClassId} {kd : List (Nat × Nat)} (had : ∀ i, i < kd.length → ad i = b + i) : mv_Ct l b ad D cA kd yX1_greatestAcross cX1_greatestAcross 4 (some .int) 2 (sX1_greatestAcross kd) := by
  refine mv_introF (rk := 1) tX1_greatestAcross (mv_pf plRX1) kX1_greatestAcross had ⟨(fun e => by cases e), (fun _ => rfl), (fun e => by cases e), (fun e => by cases e), (fun e => by cases e)⟩ (oX1_greatestAcross had) ?_
  intro h as hp
  obtain ⟨x0, rfl, hq⟩ := ms_a_inv hp
  refine ⟨Nat.le_of_ble_eq_true rfl, fun X hX => ?_⟩
  show X 0 [some (.ref x0), none, none, none] [] h
  obtain ⟨hg, hpos⟩ := hq
  have hn4 := hg.2.2.2.2
  have loop : ∀ i, i ≤ gn h x0 - 1 → X 9 [some (.ref x0), some (.long (foldL jMaxL (fun i => gE h x0 i i) i)), none, some (.int (nI (i + 1)))] [] h := by
    refine mv_up (gn h x0 - 1) ?_
    intro i hi ih
    refine mv_go hX 60 ?_
    simp only [mv_wps, mv_exq, mv_exr, mv_exn, mv_xg, mv_xpi, mv_xpl, mv_xpr, mv_xc, mv_xc2, mv_xs, mv_9z, mv_cqs, mv_calls, mv_lgz, mv_stz, mv_kz, mv_cz, mv_fvs, mv_ats, mv_ics, mv_rz, mv_tz, mv_cns, mv_nfs, mv_fins, mv_det, mv_cc, mv_c0, Nat.reduceAdd, Nat.reduceEqDiff, Nat.reduceLT, Nat.reduceLeDiff, Nat.reduceSub, reduceIte, decide_false, decide_true, Bool.false_eq_true, List.map_cons, List.map_nil, List.sum_cons, List.sum_nil, true_and, and_true, true_or, or_true, false_or, or_false, false_and, and_false, true_implies, false_implies, implies_true, not_true_eq_false, not_false_eq_true, lg_cmp_ge, lg_cmp_le, lg_cmp_gt, lg_cmp_lt, lg_cmp_eq, qX1_greatestAcross, flX1s, cIX1s, cLX1s, csX1_greatestAcross, sX1_greatestAcross, sX1_at, sJ9_max_f86c9, ms_a, ms_aii, ms_ll, hg.1, hg, hg.2.2.2.1]
    refine ⟨fun hc => ?_, fun hc => ?_⟩
    · rw [nI_leI (by omega) (by omega)] at hc
      obtain rfl : i = gn h x0 - 1 := by omega
      rfl
    · rw [nI_leI (by omega) (by omega)] at hc
      rw [gAt_in (by omega) (by omega) (by omega), nI_1]
      exact ih (by omega)
  refine mv_go hX 60 ?_
  simp only [mv_wps, mv_exq, mv_exr, mv_exn, mv_xg, mv_xpi, mv_xpl, mv_xpr, mv_xc, mv_xc2, mv_xs, mv_9z, mv_cqs, mv_calls, mv_lgz, mv_stz, mv_kz, mv_cz, mv_fvs, mv_ats, mv_ics, mv_rz, mv_tz, mv_cns, mv_nfs, mv_fins, mv_det, mv_cc, mv_c0, Nat.reduceAdd, Nat.reduceEqDiff, Nat.reduceLT, Nat.reduceLeDiff, Nat.reduceSub, reduceIte, decide_false, decide_true, Bool.false_eq_true, List.map_cons, List.map_nil, List.sum_cons, List.sum_nil, true_and, and_true, true_or, or_true, false_or, or_false, false_and, and_false, true_implies, false_implies, implies_true, not_true_eq_false, not_false_eq_true, lg_cmp_ge, lg_cmp_le, lg_cmp_gt, lg_cmp_lt, lg_cmp_eq, qX1_greatestAcross, flX1s, cIX1s, cLX1s, csX1_greatestAcross, sX1_greatestAcross, sX1_at, sJ9_max_f86c9, ms_a, ms_aii, ms_ll, hg.1, hg, hg.2.2.2.1]
  have e0 : gAt h x0 0 0 = gE h x0 0 0 := by
    rw [← nI_0]
    exact gAt_in (by omega) (by omega) (by omega)
  rw [e0]
  exact loop 0 (by omega)
def sX1_firstUnlikeLine (kd : List (Nat × Nat)) : mv_S := ms_a (fun g h => gOk kd h g) (fun g h v h' => ((v = some (.int (-1)) ∧ ∀ i k, i < gn h g → k < gn h g → gE h g i k = gE h g k i) ∨ (∃ i, v = some (.int (nI i)) ∧ i < gn h g ∧ (∃ k, k < gn h g ∧ ¬ gE h g i k = gE h g k i) ∧ ∀ j k, j < i → k < gn h g → gE h g j k = gE h g k j)) ∧ h' = h)
def csX1_firstUnlikeLine (kd : List (Nat × Nat)) : mv_CS := (mv_cc 38 1 2 (sX1_at kd) mv_c0)
theorem oX1_firstUnlikeLine {l : Launch} {b : Nat} {ad : Nat → Nat} {D : va_G} {cA : Nat → ClassId} {kd : List (Nat × Nat)} (had : ∀ i, i < kd.length → ad i = b + i) : mv_Own l (mv_room 2) b ad D cA kd RX1 flX1 cIX1 cLX1 (csX1_firstUnlikeLine kd) := (mv_oV lRX1_38 zX1_at rfl (by decide) (ctX1_at had) ⟨by decide, by decide⟩ (mv_o0 flX1_ok cIX1_ok cLX1_ok))
set_option maxRecDepth 100000 in
set_option maxHeartbeats 4000000 in
theorem ctX1_firstUnlikeLine {l : Launch} {b : Nat} {ad : Nat → Nat} {D : va_G} {cA : Nat → ClassId} {kd : List (Nat × Nat)} (had : ∀ i, i < kd.length → ad i = b + i) : mv_Ct l b ad D cA kd yX1_firstUnlikeLine cX1_firstUnlikeLine 3 (some .int) 2 (sX1_firstUnlikeLine kd) := by
  refine mv_introF (rk := 1) tX1_firstUnlikeLine (mv_pf plRX1) kX1_firstUnlikeLine had ⟨(fun e => by cases e), (fun _ => rfl), (fun e => by cases e), (fun e => by cases e), (fun e => by cases e)⟩ (oX1_firstUnlikeLine had) ?_
  intro h as hp
  obtain ⟨x0, rfl, hq⟩ := ms_a_inv hp
  refine ⟨Nat.le_of_ble_eq_true rfl, fun X hX => ?_⟩
  show X 0 [some (.ref x0), none, none] [] h
  have hn4 := hq.2.2.2.2
  have loop : ∀ i, i ≤ gn h x0 → (∀ j k, j < i → k < gn h x0 → gE h x0 j k = gE h x0 k j) → ∀ o, X 2 [some (.ref x0), some (.int (nI i)), o] [] h := by
    refine mv_up (gn h x0) ?_
    intro i hi ih hall o
    have inner : i < gn h x0 → ∀ k, k ≤ gn h x0 → (∀ j, j < k → gE h x0 i j = gE h x0 j i) → X 12 [some (.ref x0), some (.int (nI i)), some (.int (nI k))] [] h := by
      intro hlt
      refine mv_up (gn h x0) ?_
      intro k hk ihk hak
      refine mv_go hX 60 ?_
      simp only [mv_wps, mv_exq, mv_exr, mv_exn, mv_xg, mv_xpi, mv_xpl, mv_xpr, mv_xc, mv_xc2, mv_xs, mv_9z, mv_cqs, mv_calls, mv_lgz, mv_stz, mv_kz, mv_cz, mv_fvs, mv_ats, mv_ics, mv_rz, mv_tz, mv_cns, mv_nfs, mv_fins, mv_det, mv_cc, mv_c0, Nat.reduceAdd, Nat.reduceEqDiff, Nat.reduceLT, Nat.reduceLeDiff, Nat.reduceSub, reduceIte, decide_false, decide_true, Bool.false_eq_true, List.map_cons, List.map_nil, List.sum_cons, List.sum_nil, true_and, and_true, true_or, or_true, false_or, or_false, false_and, and_false, true_implies, false_implies, implies_true, not_true_eq_false, not_false_eq_true, lg_cmp_ge, lg_cmp_le, lg_cmp_gt, lg_cmp_lt, lg_cmp_eq, qX1_firstUnlikeLine, flX1s, cIX1s, cLX1s, csX1_firstUnlikeLine, sX1_firstUnlikeLine, sX1_at, ms_a, ms_aii, hq.1, hq, hq.2.2.2.1]
      refine ⟨fun hc => ?_, fun hc => ?_⟩
      · rw [nI_leI (by omega) (by omega)] at hc
        obtain rfl : k = gn h x0 := by omega
        rw [nI_1]
        refine ih hlt (fun j q hj hq => ?_) _
        by_cases e : j = i
        · subst e; exact hak q hq
        · exact hall j q (by omega) hq
      · rw [nI_leI (by omega) (by omega)] at hc
        rw [gAt_in (by omega) (by omega) (by omega), gAt_in (by omega) (by omega) (by omega)]
        refine ⟨fun h1 => ?_, fun h1 => Or.inr ⟨i, rfl, hlt, ⟨k, by omega, h1⟩, hall⟩⟩
        rw [nI_1]
        refine ihk (by omega) (fun j hj => ?_)
        by_cases e : j = k
        · subst e; exact h1
        · exact hak j (by omega)
    refine mv_go hX 60 ?_
    simp only [mv_wps, mv_exq, mv_exr, mv_exn, mv_xg, mv_xpi, mv_xpl, mv_xpr, mv_xc, mv_xc2, mv_xs, mv_9z, mv_cqs, mv_calls, mv_lgz, mv_stz, mv_kz, mv_cz, mv_fvs, mv_ats, mv_ics, mv_rz, mv_tz, mv_cns, mv_nfs, mv_fins, mv_det, mv_cc, mv_c0, Nat.reduceAdd, Nat.reduceEqDiff, Nat.reduceLT, Nat.reduceLeDiff, Nat.reduceSub, reduceIte, decide_false, decide_true, Bool.false_eq_true, List.map_cons, List.map_nil, List.sum_cons, List.sum_nil, true_and, and_true, true_or, or_true, false_or, or_false, false_and, and_false, true_implies, false_implies, implies_true, not_true_eq_false, not_false_eq_true, lg_cmp_ge, lg_cmp_le, lg_cmp_gt, lg_cmp_lt, lg_cmp_eq, qX1_firstUnlikeLine, flX1s, cIX1s, cLX1s, csX1_firstUnlikeLine, sX1_firstUnlikeLine, sX1_at, ms_a, ms_aii, hq.1, hq, hq.2.2.2.1]
    refine ⟨fun hc => ?_, fun hc => ?_⟩
    · rw [nI_leI (by omega) (by omega)] at hc
      obtain rfl : i = gn h x0 := by omega
      exact Or.inl (fun a c ha hc => hall a c ha hc)
    · rw [nI_leI (by omega) (by omega)] at hc
      exact inner (by omega) 0 (by omega) (fun j z => absurd z (by omega))
  refine mv_go hX 60 ?_
  simp only [mv_wps, mv_exq, mv_exr, mv_exn, mv_xg, mv_xpi, mv_xpl, mv_xpr, mv_xc, mv_xc2, mv_xs, mv_9z, mv_cqs, mv_calls, mv_lgz, mv_stz, mv_kz, mv_cz, mv_fvs, mv_ats, mv_ics, mv_rz, mv_tz, mv_cns, mv_nfs, mv_fins, mv_det, mv_cc, mv_c0, Nat.reduceAdd, Nat.reduceEqDiff, Nat.reduceLT, Nat.reduceLeDiff, Nat.reduceSub, reduceIte, decide_false, decide_true, Bool.false_eq_true, List.map_cons, List.map_nil, List.sum_cons, List.sum_nil, true_and, and_true, true_or, or_true, false_or, or_false, false_and, and_false, true_implies, false_implies, implies_true, not_true_eq_false, not_false_eq_true, lg_cmp_ge, lg_cmp_le, lg_cmp_gt, lg_cmp_lt, lg_cmp_eq, qX1_firstUnlikeLine, flX1s, cIX1s, cLX1s, csX1_firstUnlikeLine, sX1_firstUnlikeLine, sX1_at, ms_a, ms_aii, hq.1, hq, hq.2.2.2.1]
  exact loop 0 (by omega) (fun j k z => absurd z (by omega)) _
