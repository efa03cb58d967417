/-! The bench's calls that make a lattice. -/
def kpP (h : mv_M) (a : Nat) (v : Option Value) (h' : mv_M) : Prop := (¬ gSmall h (a + 1) ∧ v = some (.int (-1)) ∧ h' = h) ∨ (gSmall h (a + 1) ∧ v = some (.int (nI (sbC h))) ∧ ∃ h1, laSet h h1 a ∧ h' = mv_si h1 0 7 (nI (sbC h + 1)))
/-- a grid of a lattice changed -/
def gCh (g : Nat) (h h' : mv_M) : Prop := h'.2.2 = h.2.2 ∧ (∀ o j, ¬ (o = g ∧ j = 0) → h'.1 o j = h.1 o j) ∧ (∀ o, o ≠ g + 1 → h'.2.1 o = h.2.1 o) ∧ h'.1 g 0 = nI (gn h' g) ∧ gn h' g ≤ 4
theorem gCh.gok {kd : List (Nat × Nat)} {g a : Nat} {h h' : mv_M} (z : gCh g h h') (w : gOk kd h a) : gOk kd h' a := by
  obtain ⟨c1, c2, c3, c4, c5⟩ := w
  obtain ⟨z1, z2, z3, z4, z5⟩ := z
  by_cases e : a = g
  · subst e
    exact ⟨c1, c2, by rw [z1]; exact c3, z4, z5⟩
  · have e1 : h'.1 a 0 = h.1 a 0 := z2 a 0 (by omega)
    have e2 : gn h' a = gn h a := by unfold gn; rw [e1]
    exact ⟨c1, c2, by rw [z1]; exact c3, by rw [e1, e2]; exact c4, by rw [e2]; exact c5⟩
theorem gCh.tr {g : Nat} {h h1 h2 : mv_M} (z : gCh g h h1) (y : gCh g h1 h2) : gCh g h h2 := ⟨y.1.trans z.1, fun o j q => (y.2.1 o j q).trans (z.2.1 o j q), fun o q => (y.2.2.1 o q).trans (z.2.2.1 o q), y.2.2.2.1, y.2.2.2.2⟩
theorem gCh.la {kd : List (Nat × Nat)} {g a : Nat} {h h' : mv_M} (z : gCh g h h') (w : laOk kd h a) : laOk kd h' a := by
  obtain ⟨l1, l2, l3, l4, l5, l6, l7⟩ := w
  exact ⟨l1, l2, by rw [z.1]; exact l3, by rw [z.1]; exact l4, by rw [z.1]; exact l5, z.gok l6, z.gok l7⟩
theorem gCh.c {g : Nat} {h h' : mv_M} (z : gCh g h h') (hg : g ≠ 0) : h'.1 0 7 = h.1 0 7 ∧ sbC h' = sbC h := by
  have : h'.1 0 7 = h.1 0 7 := z.2.1 0 7 (by omega)
  exact ⟨this, by unfold sbC; rw [this]⟩
theorem gCopy_Ch {kd : List (Nat × Nat)} {h : mv_M} {g o : Nat} (ho : gOk kd h o) : gCh g h (gCopy h g o) := by
  have e : (gCopy h g o).1 g 0 = h.1 o 0 := by simp [gCopy, gFill, mv_si]
  have e2 : gn (gCopy h g o) g = gn h o := by unfold gn; rw [e]
  refine ⟨rfl, fun a j q => by simp [gCopy, gFill, mv_si, q], fun a q => by funext j; simp [gCopy, gFill, mv_si, q], by rw [e, e2]; exact ho.2.2.2.1, by rw [e2]; exact ho.2.2.2.2⟩
theorem gOpen_n {h : mv_M} {g n : Nat} (hn : n ≤ 4) : (gOpen h g (nI n)).1 g 0 = nI n ∧ gn (gOpen h g (nI n)) g = n := by
  have e : (gOpen h g (nI n)).1 g 0 = nI n := by
    have := jClamp hn
    simp [gOpen, gFill, mv_si]
    exact this
  exact ⟨e, by unfold gn; rw [e]; exact nI_clamp (by omega)⟩
theorem gOpen_Ch {h : mv_M} {g n : Nat} (hn : n ≤ 4) : gCh g h (gOpen h g (nI n)) := by
  obtain ⟨e1, e2⟩ := gOpen_n (h := h) (g := g) hn
  refine ⟨rfl, fun a j q => by simp [gOpen, gFill, mv_si, q], fun a q => by funext j; simp [gOpen, gFill, mv_si, q], by rw [e1, e2], by rw [e2]; exact hn⟩
theorem gRow_Ch {kd : List (Nat × Nat)} {g : Nat} {h h' : mv_M} {P : Nat → Nat → Prop} {f : Nat → Nat → Int64} (w : gOk kd h g) (z : gRow g h h' P f) : gCh g h h' := by
  obtain ⟨⟨z1, z2, z3, z4⟩, -⟩ := z
  have e2 : gn h' g = gn h g := by unfold gn; rw [z1]
  exact ⟨z2, fun o j _ => by rw [z1], z3, by rw [e2, z1]; exact w.2.2.2.1, by rw [e2]; exact w.2.2.2.2⟩
theorem gMul_Ch {kd : List (Nat × Nat)} {g : Nat} {h : mv_M} {m : Int64} (w : gOk kd h g) : gCh g h (gMul h g m) := ⟨rfl, fun _ _ _ => rfl, fun a q => by funext j; simp [gMul, gFill, q], w.2.2.2.1, w.2.2.2.2⟩
def tkU (h : mv_M) (i : Nat) : Prop := i < gn h 1 ∧ (∃ k, k < gn h 1 ∧ ¬ gE h 1 i k = gE h 1 k i) ∧ ∀ j k, j < i → k < gn h 1 → gE h 1 j k = gE h 1 k j
def tkA (h : mv_M) : Prop := ∀ i k, i < gn h 1 → k < gn h 1 → gE h 1 i k = gE h 1 k i
def tkF (h : mv_M) (k : Nat) : Prop := (1 ≤ k ∧ k ≤ gn h 1) ∧ ¬ 0 < gDet h 1 (nI k) ∧ ∀ j, 1 ≤ j → j < k → 0 < gDet h 1 (nI j)
def tkD (h : mv_M) : Prop := ∀ k, 1 ≤ k → k ≤ gn h 1 → 0 < gDet h 1 (nI k)
def tkC (h : mv_M) (v : Option Value) (h' : mv_M) : Prop :=
  (¬ sbC h < 20 ∧ v = some (.int (-1)) ∧ h' = h) ∨ (sbC h < 20 ∧ ((∃ i, tkU h i ∧ v = some (.int (-10 - nI i)) ∧ h' = h) ∨ (tkA h ∧ ((∃ k, tkF h k ∧ v = some (.int (-20 - nI k)) ∧ h' = h) ∨ (tkD h ∧ kpP (gCopy h (37 + 6 * sbC h + 1) 1) (37 + 6 * sbC h) v h')))))
def sX6_take (kd : List (Nat × Nat)) : mv_S := ms_a (fun b h => b = 0 ∧ sbOk kd h) (fun _ h v h' => tkC h v h')
noncomputable def csX6_take (kd : List (Nat × Nat)) : mv_CS := (mv_cc 81 6 0 (sX6_freeLattice kd) (mv_cc 85 1 0 (sX1_firstUnlikeLine kd) (mv_cc 89 1 0 (sX1_firstFlatCorner kd) (mv_cc 95 1 1 (sX1_copy kd) (mv_cc 99 6 1 (sX6_keepIfSmall kd) mv_c0)))))
theorem oX6_take {l : Launch} {b : Nat} {ad : Nat → Nat} {D : va_G} {cA : Nat → ClassId} {kd : List (Nat × Nat)} (had : ∀ i, i < kd.length → ad i = b + i) : mv_Own l (mv_room 12) b ad D cA kd RX6 flX6 cIX6 cLX6 (csX6_take kd) := (mv_oV lRX6_81 zX6_freeLattice rfl (by decide) (ctX6_freeLattice had) ⟨by decide, by decide⟩ (mv_oV lRX6_85 zX1_firstUnlikeLine rfl (by decide) (ctX1_firstUnlikeLine had) ⟨by decide, by decide⟩ (mv_oV lRX6_89 zX1_firstFlatCorner rfl (by decide) (ctX1_firstFlatCorner had) ⟨by decide, by decide⟩ (mv_oV lRX6_95 zX1_copy rfl (by decide) (ctX1_copy had) ⟨by decide, by decide⟩ (mv_oV lRX6_99 zX6_keepIfSmall rfl (by decide) (ctX6_keepIfSmall had) ⟨by decide, by decide⟩ (mv_o0 flX6_ok cIX6_ok cLX6_ok))))))
set_option maxRecDepth 100000 in
set_option maxHeartbeats 4000000 in
theorem ctX6_take {l : Launch} {b : Nat} {ad : Nat → Nat} {D : va_G} {cA : Nat → ClassId} {kd : List (Nat × Nat)} (had : ∀ i, i < kd.length → ad i = b + i) : mv_Ct l b ad D cA kd yX6_take cX6_take 4 (some .int) 12 (sX6_take kd) := by
  refine mv_introF (rk := 1) tX6_take (mv_pf plRX6) kX6_take had ⟨(fun e => by cases e), (fun _ => rfl), (fun e => by cases e), (fun e => by cases e), (fun e => by cases e)⟩ (oX6_take had) ?_
  intro h as hp
  obtain ⟨x0, rfl, hq⟩ := ms_a_inv hp
  refine ⟨Nat.le_of_ble_eq_true rfl, fun X hX => ?_⟩
  show X 0 [some (.ref x0), none, none, none] [] h
  obtain ⟨rfl, hS⟩ := hq
  obtain ⟨⟨⟨K1, K2⟩, ⟨⟨p0, p1, p2, p3, p4, p5, p6⟩, pls, psh⟩, hC⟩, ⟨g1, g3, g5⟩, ⟨hw, hu, hr⟩, ⟨b29, b33⟩, hla⟩ := id hS
  by_cases hf : sbC h < 20
  · have eF : sbFree h = .ref (37 + 6 * sbC h) := if_pos hf
    have hA := hla (sbC h) hf
    obtain ⟨l1, l2, l3, l4, l5, l6, l7⟩ := id hA
    refine mv_go hX 60 ?_
    simp only [mv_wps, mv_exq, mv_exr, mv_exn, mv_xg, mv_xpi, mv_xpl, mv_xpr, mv_xc, mv_xc2, mv_xs, mv_9z, mv_cqs, mv_calls, mv_lgz, mv_stz, mv_kz, mv_cz, mv_fvs, mv_ats, mv_ics, mv_rz, mv_tz, mv_cns, mv_nfs, mv_fins, mv_det, mv_cc, mv_c0, Nat.reduceAdd, Nat.reduceEqDiff, Nat.reduceLT, Nat.reduceLeDiff, Nat.reduceSub, reduceIte, decide_false, decide_true, Bool.false_eq_true, List.map_cons, List.map_nil, List.sum_cons, List.sum_nil, true_and, and_true, true_or, or_true, false_or, or_false, false_and, and_false, true_implies, false_implies, implies_true, not_true_eq_false, not_false_eq_true, lg_cmp_ge, lg_cmp_le, lg_cmp_gt, lg_cmp_lt, lg_cmp_eq, qX6_take, flX6s, cIX6s, cLX6s, csX6_take, sX6_take, sX6_freeLattice, sX1_firstUnlikeLine, sX1_firstFlatCorner, sX1_copy, sX6_keepIfSmall, ms_a, ms_aa, K1, hS, eF, p0, g1, g1.1]
    have hCh : gCh (37 + 6 * sbC h + 1) h (gCopy h (37 + 6 * sbC h + 1) 1) := gCopy_Ch g1
    have hAC := hCh.la hA
    obtain ⟨c7, cC⟩ := hCh.c (by omega)
    rintro v h' ⟨⟨rfl, hall⟩ | ⟨i, rfl, hi, hk, hj⟩, hh⟩
    · rw [hh]
      have hm1 : ((-1 : Int32) < 0) = True := by decide
      have nm1 : (¬ (-1 : Int32) < 0) = False := by decide
      simp only [mv_wps, mv_exq, mv_exr, mv_exn, mv_xg, mv_xpi, mv_xpl, mv_xpr, mv_xc, mv_xc2, mv_xs, mv_9z, mv_cqs, mv_calls, mv_lgz, mv_stz, mv_kz, mv_cz, mv_fvs, mv_ats, mv_ics, mv_rz, mv_tz, mv_cns, mv_nfs, mv_fins, mv_det, mv_cc, mv_c0, Nat.reduceAdd, Nat.reduceEqDiff, Nat.reduceLT, Nat.reduceLeDiff, Nat.reduceSub, reduceIte, decide_false, decide_true, Bool.false_eq_true, List.map_cons, List.map_nil, List.sum_cons, List.sum_nil, true_and, and_true, true_or, or_true, false_or, or_false, false_and, and_false, true_implies, false_implies, implies_true, not_true_eq_false, not_false_eq_true, lg_cmp_ge, lg_cmp_le, lg_cmp_gt, lg_cmp_lt, lg_cmp_eq, qX6_take, flX6s, cIX6s, cLX6s, csX6_take, sX6_take, sX6_freeLattice, sX1_firstUnlikeLine, sX1_firstFlatCorner, sX1_copy, sX6_keepIfSmall, ms_a, ms_aa, K1, hS, eF, p0, g1, g1.1, hm1, nm1]
      rintro v h' ⟨⟨rfl, hd⟩ | ⟨k, rfl, hk1, hk2, hk3, hk4⟩, hh⟩
      · rw [hh]
        have z0 : ((0 : Int32) ≤ 0) = True := by decide
        have n0 : (¬ (0 : Int32) ≤ 0) = False := by decide
        have ne : ¬ 37 + 6 * sbC h + 1 = 1 := by omega
        simp only [mv_wps, mv_exq, mv_exr, mv_exn, mv_xg, mv_xpi, mv_xpl, mv_xpr, mv_xc, mv_xc2, mv_xs, mv_9z, mv_cqs, mv_calls, mv_lgz, mv_stz, mv_kz, mv_cz, mv_fvs, mv_ats, mv_ics, mv_rz, mv_tz, mv_cns, mv_nfs, mv_fins, mv_det, mv_cc, mv_c0, Nat.reduceAdd, Nat.reduceEqDiff, Nat.reduceLT, Nat.reduceLeDiff, Nat.reduceSub, reduceIte, decide_false, decide_true, Bool.false_eq_true, List.map_cons, List.map_nil, List.sum_cons, List.sum_nil, true_and, and_true, true_or, or_true, false_or, or_false, false_and, and_false, true_implies, false_implies, implies_true, not_true_eq_false, not_false_eq_true, lg_cmp_ge, lg_cmp_le, lg_cmp_gt, lg_cmp_lt, lg_cmp_eq, qX6_take, flX6s, cIX6s, cLX6s, csX6_take, sX6_take, sX6_freeLattice, sX1_firstUnlikeLine, sX1_firstFlatCorner, sX1_copy, sX6_keepIfSmall, ms_a, ms_aa, K1, hS, eF, p0, g1, g1.1, z0, n0, l1, l3, l6, l6.1, ne, hS.1.1, c7, cC, hC, hAC]
        refine ⟨ne, ?_⟩
        rintro v h' (⟨w1, rfl, hh⟩ | ⟨w1, rfl, h1, w2, hh⟩)
        · simp only [mv_wps, mv_exq, mv_exr, mv_exn, mv_xg, mv_xpi, mv_xpl, mv_xpr, mv_xc, mv_xc2, mv_xs, mv_9z, mv_cqs, mv_calls, mv_lgz, mv_stz, mv_kz, mv_cz, mv_fvs, mv_ats, mv_ics, mv_rz, mv_tz, mv_cns, mv_nfs, mv_fins, mv_det, mv_cc, mv_c0, Nat.reduceAdd, Nat.reduceEqDiff, Nat.reduceLT, Nat.reduceLeDiff, Nat.reduceSub, reduceIte, decide_false, decide_true, Bool.false_eq_true, List.map_cons, List.map_nil, List.sum_cons, List.sum_nil, true_and, and_true, true_or, or_true, false_or, or_false, false_and, and_false, true_implies, false_implies, implies_true, not_true_eq_false, not_false_eq_true, lg_cmp_ge, lg_cmp_le, lg_cmp_gt, lg_cmp_lt, lg_cmp_eq, qX6_take, flX6s, cIX6s, cLX6s, csX6_take, sX6_take, sX6_freeLattice, sX1_firstUnlikeLine, sX1_firstFlatCorner, sX1_copy, sX6_keepIfSmall, ms_a, ms_aa]
          exact Or.inr ⟨hf, Or.inr ⟨hall, Or.inr ⟨hd, Or.inl ⟨w1, rfl, hh⟩⟩⟩⟩
        · simp only [mv_wps, mv_exq, mv_exr, mv_exn, mv_xg, mv_xpi, mv_xpl, mv_xpr, mv_xc, mv_xc2, mv_xs, mv_9z, mv_cqs, mv_calls, mv_lgz, mv_stz, mv_kz, mv_cz, mv_fvs, mv_ats, mv_ics, mv_rz, mv_tz, mv_cns, mv_nfs, mv_fins, mv_det, mv_cc, mv_c0, Nat.reduceAdd, Nat.reduceEqDiff, Nat.reduceLT, Nat.reduceLeDiff, Nat.reduceSub, reduceIte, decide_false, decide_true, Bool.false_eq_true, List.map_cons, List.map_nil, List.sum_cons, List.sum_nil, true_and, and_true, true_or, or_true, false_or, or_false, false_and, and_false, true_implies, false_implies, implies_true, not_true_eq_false, not_false_eq_true, lg_cmp_ge, lg_cmp_le, lg_cmp_gt, lg_cmp_lt, lg_cmp_eq, qX6_take, flX6s, cIX6s, cLX6s, csX6_take, sX6_take, sX6_freeLattice, sX1_firstUnlikeLine, sX1_firstFlatCorner, sX1_copy, sX6_keepIfSmall, ms_a, ms_aa]
          exact Or.inr ⟨hf, Or.inr ⟨hall, Or.inr ⟨hd, Or.inr ⟨w1, by rw [cC], h1, w2, by rw [cC]; exact hh⟩⟩⟩⟩
      · rw [hh]
        simp only [mv_wps, mv_exq, mv_exr, mv_exn, mv_xg, mv_xpi, mv_xpl, mv_xpr, mv_xc, mv_xc2, mv_xs, mv_9z, mv_cqs, mv_calls, mv_lgz, mv_stz, mv_kz, mv_cz, mv_fvs, mv_ats, mv_ics, mv_rz, mv_tz, mv_cns, mv_nfs, mv_fins, mv_det, mv_cc, mv_c0, Nat.reduceAdd, Nat.reduceEqDiff, Nat.reduceLT, Nat.reduceLeDiff, Nat.reduceSub, reduceIte, decide_false, decide_true, Bool.false_eq_true, List.map_cons, List.map_nil, List.sum_cons, List.sum_nil, true_and, and_true, true_or, or_true, false_or, or_false, false_and, and_false, true_implies, false_implies, implies_true, not_true_eq_false, not_false_eq_true, lg_cmp_ge, lg_cmp_le, lg_cmp_gt, lg_cmp_lt, lg_cmp_eq, qX6_take, flX6s, cIX6s, cLX6s, csX6_take, sX6_take, sX6_freeLattice, sX1_firstUnlikeLine, sX1_firstFlatCorner, sX1_copy, sX6_keepIfSmall, ms_a, ms_aa, K1, hS, eF, p0, g1, g1.1]
        have hp : ¬ nI k ≤ 0 := by
          rw [← nI_0, nI_leI (by have := g1.2.2.2.2; omega) (by omega)]
          omega
        exact ⟨fun z => absurd z hp, fun _ => Or.inr ⟨hf, Or.inr ⟨hall, Or.inl ⟨k, ⟨⟨hk1, hk2⟩, hk3, hk4⟩, rfl, rfl⟩⟩⟩⟩
    · rw [hh]
      simp only [mv_wps, mv_exq, mv_exr, mv_exn, mv_xg, mv_xpi, mv_xpl, mv_xpr, mv_xc, mv_xc2, mv_xs, mv_9z, mv_cqs, mv_calls, mv_lgz, mv_stz, mv_kz, mv_cz, mv_fvs, mv_ats, mv_ics, mv_rz, mv_tz, mv_cns, mv_nfs, mv_fins, mv_det, mv_cc, mv_c0, Nat.reduceAdd, Nat.reduceEqDiff, Nat.reduceLT, Nat.reduceLeDiff, Nat.reduceSub, reduceIte, decide_false, decide_true, Bool.false_eq_true, List.map_cons, List.map_nil, List.sum_cons, List.sum_nil, true_and, and_true, true_or, or_true, false_or, or_false, false_and, and_false, true_implies, false_implies, implies_true, not_true_eq_false, not_false_eq_true, lg_cmp_ge, lg_cmp_le, lg_cmp_gt, lg_cmp_lt, lg_cmp_eq, qX6_take, flX6s, cIX6s, cLX6s, csX6_take, sX6_take, sX6_freeLattice, sX1_firstUnlikeLine, sX1_firstFlatCorner, sX1_copy, sX6_keepIfSmall, ms_a, ms_aa, K1, hS, eF, p0, g1, g1.1]
      exact ⟨fun z => absurd z (nI_pos (by have := g1.2.2.2.2; omega)), fun _ => Or.inr ⟨hf, Or.inl ⟨i, ⟨hi, hk, hj⟩, rfl, rfl⟩⟩⟩
  · have eF : sbFree h = .null := if_neg hf
    refine mv_go hX 60 ?_
    simp only [mv_wps, mv_exq, mv_exr, mv_exn, mv_xg, mv_xpi, mv_xpl, mv_xpr, mv_xc, mv_xc2, mv_xs, mv_9z, mv_cqs, mv_calls, mv_lgz, mv_stz, mv_kz, mv_cz, mv_fvs, mv_ats, mv_ics, mv_rz, mv_tz, mv_cns, mv_nfs, mv_fins, mv_det, mv_cc, mv_c0, Nat.reduceAdd, Nat.reduceEqDiff, Nat.reduceLT, Nat.reduceLeDiff, Nat.reduceSub, reduceIte, decide_false, decide_true, Bool.false_eq_true, List.map_cons, List.map_nil, List.sum_cons, List.sum_nil, true_and, and_true, true_or, or_true, false_or, or_false, false_and, and_false, true_implies, false_implies, implies_true, not_true_eq_false, not_false_eq_true, lg_cmp_ge, lg_cmp_le, lg_cmp_gt, lg_cmp_lt, lg_cmp_eq, qX6_take, flX6s, cIX6s, cLX6s, csX6_take, sX6_take, sX6_freeLattice, sX1_firstUnlikeLine, sX1_firstFlatCorner, sX1_copy, sX6_keepIfSmall, ms_a, ms_aa, K1, hS, eF]
    exact Or.inl ⟨hf, rfl, rfl⟩
def rdOK (h : mv_M) (l : Int32) : Prop := inR (sbC h) l ∧ sbC h < 20
def sX6_dual (kd : List (Nat × Nat)) : mv_S := ms_ai (fun b _ h => b = 0 ∧ sbOk kd h) (fun _ l h v h' => (¬ rdOK h l ∧ v = some (.int (-1)) ∧ h' = h) ∨ (rdOK h l ∧ kpP (gCopy h (37 + 6 * sbC h + 1) (37 + 6 * l.toNatClampNeg + 3)) (37 + 6 * sbC h) v h'))
noncomputable def csX6_dual (kd : List (Nat × Nat)) : mv_CS := (mv_cc 103 6 1 (sX6_latticeAt kd) (mv_cc 81 6 0 (sX6_freeLattice kd) (mv_cc 95 1 1 (sX1_copy kd) (mv_cc 99 6 1 (sX6_keepIfSmall kd) mv_c0))))
theorem oX6_dual {l : Launch} {b : Nat} {ad : Nat → Nat} {D : va_G} {cA : Nat → ClassId} {kd : List (Nat × Nat)} (had : ∀ i, i < kd.length → ad i = b + i) : mv_Own l (mv_room 12) b ad D cA kd RX6 flX6 cIX6 cLX6 (csX6_dual kd) := (mv_oV lRX6_103 zX6_latticeAt rfl (by decide) (ctX6_latticeAt had) ⟨by decide, by decide⟩ (mv_oV lRX6_81 zX6_freeLattice rfl (by decide) (ctX6_freeLattice had) ⟨by decide, by decide⟩ (mv_oV lRX6_95 zX1_copy rfl (by decide) (ctX1_copy had) ⟨by decide, by decide⟩ (mv_oV lRX6_99 zX6_keepIfSmall rfl (by decide) (ctX6_keepIfSmall had) ⟨by decide, by decide⟩ (mv_o0 flX6_ok cIX6_ok cLX6_ok)))))
set_option maxRecDepth 100000 in
set_option maxHeartbeats 4000000 in
theorem ctX6_dual {l : Launch} {b : Nat} {ad : Nat → Nat} {D : va_G} {cA : Nat → ClassId} {kd : List (Nat × Nat)} (had : ∀ i, i < kd.length → ad i = b + i) : mv_Ct l b ad D cA kd yX6_dual cX6_dual 4 (some .int) 12 (sX6_dual kd) := by
  refine mv_introF (rk := 1) tX6_dual (mv_pf plRX6) kX6_dual had ⟨(fun e => by cases e), (fun _ => rfl), (fun e => by cases e), (fun e => by cases e), (fun e => by cases e)⟩ (oX6_dual had) ?_
  intro h as hp
  obtain ⟨x0, x1, rfl, hq⟩ := ms_ai_inv hp
  refine ⟨Nat.le_of_ble_eq_true rfl, fun X hX => ?_⟩
  show X 0 [some (.ref x0), some (.int x1), none, none] [] h
  obtain ⟨rfl, hS⟩ := hq
  obtain ⟨⟨⟨K1, K2⟩, ⟨⟨p0, p1, p2, p3, p4, p5, p6⟩, pls, psh⟩, hC⟩, ⟨g1, g3, g5⟩, ⟨hw, hu, hr⟩, ⟨b29, b33⟩, hla⟩ := id hS
  by_cases hok : rdOK h x1
  · obtain ⟨hin, hf⟩ := id hok
    have eF : sbFree h = .ref (37 + 6 * sbC h) := if_pos hf
    have eA : sbAt h x1 = .ref (37 + 6 * x1.toNatClampNeg) := if_pos hin
    obtain ⟨a, ha, rfl⟩ := inR_nat hin (by have := hC.2; omega)
    have ca : (nI a).toNatClampNeg = a := nI_clamp (by have := hC.2; omega)
    rw [ca] at eA
    obtain ⟨a1, a2, a3, a4, a5, a6, a7⟩ := hla a (by have := hC.2; omega)
    have hA := hla (sbC h) hf
    obtain ⟨l1, l2, l3, l4, l5, l6, l7⟩ := id hA
    have hCh : gCh (37 + 6 * sbC h + 1) h (gCopy h (37 + 6 * sbC h + 1) (37 + 6 * a + 3)) := gCopy_Ch a7
    have hAC := hCh.la hA
    obtain ⟨c7, cC⟩ := hCh.c (by omega)
    have ne : 37 + 6 * sbC h + 1 ≠ 37 + 6 * a + 3 := by omega
    refine mv_go hX 60 ?_
    simp only [mv_wps, mv_exq, mv_exr, mv_exn, mv_xg, mv_xpi, mv_xpl, mv_xpr, mv_xc, mv_xc2, mv_xs, mv_9z, mv_cqs, mv_calls, mv_lgz, mv_stz, mv_kz, mv_cz, mv_fvs, mv_ats, mv_ics, mv_rz, mv_tz, mv_cns, mv_nfs, mv_fins, mv_det, mv_cc, mv_c0, Nat.reduceAdd, Nat.reduceEqDiff, Nat.reduceLT, Nat.reduceLeDiff, Nat.reduceSub, reduceIte, decide_false, decide_true, Bool.false_eq_true, List.map_cons, List.map_nil, List.sum_cons, List.sum_nil, true_and, and_true, true_or, or_true, false_or, or_false, false_and, and_false, true_implies, false_implies, implies_true, not_true_eq_false, not_false_eq_true, lg_cmp_ge, lg_cmp_le, lg_cmp_gt, lg_cmp_lt, lg_cmp_eq, qX6_dual, flX6s, cIX6s, cLX6s, csX6_dual, sX6_dual, sX6_latticeAt, sX6_freeLattice, sX1_copy, sX6_keepIfSmall, ms_a, ms_aa, ms_ai, K1, hS, eF, eA, l1, l3, l6, l6.1, a1, a4, a7, a7.1, ca, hS.1.1, c7, cC, hC, hAC]
    refine ⟨ne, ?_⟩
    rintro v h' (⟨w1, rfl, hh⟩ | ⟨w1, rfl, h1, w2, hh⟩)
    · simp only [mv_wps, mv_exq, mv_exr, mv_exn, mv_xg, mv_xpi, mv_xpl, mv_xpr, mv_xc, mv_xc2, mv_xs, mv_9z, mv_cqs, mv_calls, mv_lgz, mv_stz, mv_kz, mv_cz, mv_fvs, mv_ats, mv_ics, mv_rz, mv_tz, mv_cns, mv_nfs, mv_fins, mv_det, mv_cc, mv_c0, Nat.reduceAdd, Nat.reduceEqDiff, Nat.reduceLT, Nat.reduceLeDiff, Nat.reduceSub, reduceIte, decide_false, decide_true, Bool.false_eq_true, List.map_cons, List.map_nil, List.sum_cons, List.sum_nil, true_and, and_true, true_or, or_true, false_or, or_false, false_and, and_false, true_implies, false_implies, implies_true, not_true_eq_false, not_false_eq_true, lg_cmp_ge, lg_cmp_le, lg_cmp_gt, lg_cmp_lt, lg_cmp_eq, qX6_dual, flX6s, cIX6s, cLX6s, csX6_dual, sX6_dual, sX6_latticeAt, sX6_freeLattice, sX1_copy, sX6_keepIfSmall, ms_a, ms_aa, ms_ai, ca]
      exact Or.inr ⟨hok, Or.inl ⟨w1, rfl, hh⟩⟩
    · simp only [mv_wps, mv_exq, mv_exr, mv_exn, mv_xg, mv_xpi, mv_xpl, mv_xpr, mv_xc, mv_xc2, mv_xs, mv_9z, mv_cqs, mv_calls, mv_lgz, mv_stz, mv_kz, mv_cz, mv_fvs, mv_ats, mv_ics, mv_rz, mv_tz, mv_cns, mv_nfs, mv_fins, mv_det, mv_cc, mv_c0, Nat.reduceAdd, Nat.reduceEqDiff, Nat.reduceLT, Nat.reduceLeDiff, Nat.reduceSub, reduceIte, decide_false, decide_true, Bool.false_eq_true, List.map_cons, List.map_nil, List.sum_cons, List.sum_nil, true_and, and_true, true_or, or_true, false_or, or_false, false_and, and_false, true_implies, false_implies, implies_true, not_true_eq_false, not_false_eq_true, lg_cmp_ge, lg_cmp_le, lg_cmp_gt, lg_cmp_lt, lg_cmp_eq, qX6_dual, flX6s, cIX6s, cLX6s, csX6_dual, sX6_dual, sX6_latticeAt, sX6_freeLattice, sX1_copy, sX6_keepIfSmall, ms_a, ms_aa, ms_ai, ca]
      exact Or.inr ⟨hok, Or.inr ⟨w1, by rw [cC], h1, w2, by rw [cC]; exact hh⟩⟩
  · by_cases hin : inR (sbC h) x1
    · have hf : ¬ sbC h < 20 := fun z => hok ⟨hin, z⟩
      have eF : sbFree h = .null := if_neg hf
      have eA : sbAt h x1 = .ref (37 + 6 * x1.toNatClampNeg) := if_pos hin
      refine mv_go hX 60 ?_
      simp only [mv_wps, mv_exq, mv_exr, mv_exn, mv_xg, mv_xpi, mv_xpl, mv_xpr, mv_xc, mv_xc2, mv_xs, mv_9z, mv_cqs, mv_calls, mv_lgz, mv_stz, mv_kz, mv_cz, mv_fvs, mv_ats, mv_ics, mv_rz, mv_tz, mv_cns, mv_nfs, mv_fins, mv_det, mv_cc, mv_c0, Nat.reduceAdd, Nat.reduceEqDiff, Nat.reduceLT, Nat.reduceLeDiff, Nat.reduceSub, reduceIte, decide_false, decide_true, Bool.false_eq_true, List.map_cons, List.map_nil, List.sum_cons, List.sum_nil, true_and, and_true, true_or, or_true, false_or, or_false, false_and, and_false, true_implies, false_implies, implies_true, not_true_eq_false, not_false_eq_true, lg_cmp_ge, lg_cmp_le, lg_cmp_gt, lg_cmp_lt, lg_cmp_eq, qX6_dual, flX6s, cIX6s, cLX6s, csX6_dual, sX6_dual, sX6_latticeAt, sX6_freeLattice, sX1_copy, sX6_keepIfSmall, ms_a, ms_aa, ms_ai, K1, hS, eF, eA]
      exact Or.inl hok
    · have eA : sbAt h x1 = .null := if_neg hin
      by_cases hf : sbC h < 20
      · have eF : sbFree h = .ref (37 + 6 * sbC h) := if_pos hf
        refine mv_go hX 60 ?_
        simp only [mv_wps, mv_exq, mv_exr, mv_exn, mv_xg, mv_xpi, mv_xpl, mv_xpr, mv_xc, mv_xc2, mv_xs, mv_9z, mv_cqs, mv_calls, mv_lgz, mv_stz, mv_kz, mv_cz, mv_fvs, mv_ats, mv_ics, mv_rz, mv_tz, mv_cns, mv_nfs, mv_fins, mv_det, mv_cc, mv_c0, Nat.reduceAdd, Nat.reduceEqDiff, Nat.reduceLT, Nat.reduceLeDiff, Nat.reduceSub, reduceIte, decide_false, decide_true, Bool.false_eq_true, List.map_cons, List.map_nil, List.sum_cons, List.sum_nil, true_and, and_true, true_or, or_true, false_or, or_false, false_and, and_false, true_implies, false_implies, implies_true, not_true_eq_false, not_false_eq_true, lg_cmp_ge, lg_cmp_le, lg_cmp_gt, lg_cmp_lt, lg_cmp_eq, qX6_dual, flX6s, cIX6s, cLX6s, csX6_dual, sX6_dual, sX6_latticeAt, sX6_freeLattice, sX1_copy, sX6_keepIfSmall, ms_a, ms_aa, ms_ai, K1, hS, eF, eA]
        exact Or.inl hok
      · have eF : sbFree h = .null := if_neg hf
        refine mv_go hX 60 ?_
        simp only [mv_wps, mv_exq, mv_exr, mv_exn, mv_xg, mv_xpi, mv_xpl, mv_xpr, mv_xc, mv_xc2, mv_xs, mv_9z, mv_cqs, mv_calls, mv_lgz, mv_stz, mv_kz, mv_cz, mv_fvs, mv_ats, mv_ics, mv_rz, mv_tz, mv_cns, mv_nfs, mv_fins, mv_det, mv_cc, mv_c0, Nat.reduceAdd, Nat.reduceEqDiff, Nat.reduceLT, Nat.reduceLeDiff, Nat.reduceSub, reduceIte, decide_false, decide_true, Bool.false_eq_true, List.map_cons, List.map_nil, List.sum_cons, List.sum_nil, true_and, and_true, true_or, or_true, false_or, or_false, false_and, and_false, true_implies, false_implies, implies_true, not_true_eq_false, not_false_eq_true, lg_cmp_ge, lg_cmp_le, lg_cmp_gt, lg_cmp_lt, lg_cmp_eq, qX6_dual, flX6s, cIX6s, cLX6s, csX6_dual, sX6_dual, sX6_latticeAt, sX6_freeLattice, sX1_copy, sX6_keepIfSmall, ms_a, ms_aa, ms_ai, K1, hS, eF, eA]
        exact Or.inl hok
def slOK (h : mv_M) (l x : Int32) : Prop := rdOK h l ∧ 1 ≤ x ∧ x ≤ 999
def sX6_scale (kd : List (Nat × Nat)) : mv_S := ms_aii (fun b _ _ h => b = 0 ∧ sbOk kd h) (fun _ l x h v h' => (¬ slOK h l x ∧ v = some (.int (-1)) ∧ h' = h) ∨ (slOK h l x ∧ kpP (gMul (gCopy h (37 + 6 * sbC h + 1) (37 + 6 * l.toNatClampNeg + 1)) (37 + 6 * sbC h + 1) x.toInt64) (37 + 6 * sbC h) v h'))
noncomputable def csX6_scale (kd : List (Nat × Nat)) : mv_CS := (mv_cc 103 6 1 (sX6_latticeAt kd) (mv_cc 81 6 0 (sX6_freeLattice kd) (mv_cc 95 1 1 (sX1_copy kd) (mv_cc 170 1 1 (sX1_multiply kd) (mv_cc 99 6 1 (sX6_keepIfSmall kd) mv_c0)))))
theorem oX6_scale {l : Launch} {b : Nat} {ad : Nat → Nat} {D : va_G} {cA : Nat → ClassId} {kd : List (Nat × Nat)} (had : ∀ i, i < kd.length → ad i = b + i) : mv_Own l (mv_room 12) b ad D cA kd RX6 flX6 cIX6 cLX6 (csX6_scale kd) := (mv_oV lRX6_103 zX6_latticeAt rfl (by decide) (ctX6_latticeAt had) ⟨by decide, by decide⟩ (mv_oV lRX6_81 zX6_freeLattice rfl (by decide) (ctX6_freeLattice had) ⟨by decide, by decide⟩ (mv_oV lRX6_95 zX1_copy rfl (by decide) (ctX1_copy had) ⟨by decide, by decide⟩ (mv_oV lRX6_170 zX1_multiply rfl (by decide) (ctX1_multiply had) ⟨by decide, by decide⟩ (mv_oV lRX6_99 zX6_keepIfSmall rfl (by decide) (ctX6_keepIfSmall had) ⟨by decide, by decide⟩ (mv_o0 flX6_ok cIX6_ok cLX6_ok))))))
set_option maxRecDepth 100000 in
set_option maxHeartbeats 4000000 in
theorem ctX6_scale {l : Launch} {b : Nat} {ad : Nat → Nat} {D : va_G} {cA : Nat → ClassId} {kd : List (Nat × Nat)} (had : ∀ i, i < kd.length → ad i = b + i) : mv_Ct l b ad D cA kd yX6_scale cX6_scale 5 (some .int) 12 (sX6_scale kd) := by
  refine mv_introF (rk := 1) tX6_scale (mv_pf plRX6) kX6_scale had ⟨(fun e => by cases e), (fun _ => rfl), (fun e => by cases e), (fun e => by cases e), (fun e => by cases e)⟩ (oX6_scale had) ?_
  intro h as hp
  obtain ⟨x0, x1, x2, rfl, hq⟩ := ms_aii_inv hp
  refine ⟨Nat.le_of_ble_eq_true rfl, fun X hX => ?_⟩
  show X 0 [some (.ref x0), some (.int x1), some (.int x2), none, none] [] h
  obtain ⟨rfl, hS⟩ := hq
  obtain ⟨⟨⟨K1, K2⟩, ⟨⟨p0, p1, p2, p3, p4, p5, p6⟩, pls, psh⟩, hC⟩, ⟨g1, g3, g5⟩, ⟨hw, hu, hr⟩, ⟨b29, b33⟩, hla⟩ := id hS
  by_cases hok : rdOK h x1
  · obtain ⟨hin, hf⟩ := id hok
    have eF : sbFree h = .ref (37 + 6 * sbC h) := if_pos hf
    have eA : sbAt h x1 = .ref (37 + 6 * x1.toNatClampNeg) := if_pos hin
    obtain ⟨a, ha, rfl⟩ := inR_nat hin (by have := hC.2; omega)
    have ca : (nI a).toNatClampNeg = a := nI_clamp (by have := hC.2; omega)
    rw [ca] at eA
    obtain ⟨a1, a2, a3, a4, a5, a6, a7⟩ := hla a (by have := hC.2; omega)
    have hA := hla (sbC h) hf
    obtain ⟨l1, l2, l3, l4, l5, l6, l7⟩ := id hA
    have hCh : gCh (37 + 6 * sbC h + 1) h (gCopy h (37 + 6 * sbC h + 1) (37 + 6 * a + 1)) := gCopy_Ch a6
    have hG := hCh.gok l6
    have hR : (gCopy h (37 + 6 * sbC h + 1) (37 + 6 * a + 1)).2.2 = h.2.2 := rfl
    have hCh2 := hCh.tr (gMul_Ch (m := x2.toInt64) hG)
    have hAC := hCh2.la hA
    obtain ⟨c7, cC⟩ := hCh2.c (by omega)
    have ne : 37 + 6 * sbC h + 1 ≠ 37 + 6 * a + 1 := by omega
    refine mv_go hX 60 ?_
    simp only [mv_wps, mv_exq, mv_exr, mv_exn, mv_xg, mv_xpi, mv_xpl, mv_xpr, mv_xc, mv_xc2, mv_xs, mv_9z, mv_cqs, mv_calls, mv_lgz, mv_stz, mv_kz, mv_cz, mv_fvs, mv_ats, mv_ics, mv_rz, mv_tz, mv_cns, mv_nfs, mv_fins, mv_det, mv_cc, mv_c0, Nat.reduceAdd, Nat.reduceEqDiff, Nat.reduceLT, Nat.reduceLeDiff, Nat.reduceSub, reduceIte, decide_false, decide_true, Bool.false_eq_true, List.map_cons, List.map_nil, List.sum_cons, List.sum_nil, true_and, and_true, true_or, or_true, false_or, or_false, false_and, and_false, true_implies, false_implies, implies_true, not_true_eq_false, not_false_eq_true, lg_cmp_ge, lg_cmp_le, lg_cmp_gt, lg_cmp_lt, lg_cmp_eq, qX6_scale, flX6s, cIX6s, cLX6s, csX6_scale, sX6_scale, sX6_latticeAt, sX6_freeLattice, sX1_copy, sX1_multiply, sX6_keepIfSmall, ms_a, ms_aa, ms_ai, ms_aii, ms_al, K1, hS, eF, eA, l1, l3, l6, l6.1, a1, a3, a6, a6.1, ca, hS.1.1, hG, hR, c7, cC, hC, hAC]
    refine ⟨fun z1 => ?_, fun z1 => ⟨fun z2 => ⟨ne, ?_⟩, fun z2 => ?_⟩⟩
    · exact Or.inl (fun q => absurd q.2.1 (Int32.not_le.mpr z1))
    · have hok2 : slOK h (nI a) x2 := ⟨hok, Int32.not_lt.mp z1, z2⟩
      rintro v h' (⟨w1, rfl, hh⟩ | ⟨w1, rfl, h1, w2, hh⟩)
      · simp only [mv_wps, mv_exq, mv_exr, mv_exn, mv_xg, mv_xpi, mv_xpl, mv_xpr, mv_xc, mv_xc2, mv_xs, mv_9z, mv_cqs, mv_calls, mv_lgz, mv_stz, mv_kz, mv_cz, mv_fvs, mv_ats, mv_ics, mv_rz, mv_tz, mv_cns, mv_nfs, mv_fins, mv_det, mv_cc, mv_c0, Nat.reduceAdd, Nat.reduceEqDiff, Nat.reduceLT, Nat.reduceLeDiff, Nat.reduceSub, reduceIte, decide_false, decide_true, Bool.false_eq_true, List.map_cons, List.map_nil, List.sum_cons, List.sum_nil, true_and, and_true, true_or, or_true, false_or, or_false, false_and, and_false, true_implies, false_implies, implies_true, not_true_eq_false, not_false_eq_true, lg_cmp_ge, lg_cmp_le, lg_cmp_gt, lg_cmp_lt, lg_cmp_eq, qX6_scale, flX6s, cIX6s, cLX6s, csX6_scale, sX6_scale, sX6_latticeAt, sX6_freeLattice, sX1_copy, sX1_multiply, sX6_keepIfSmall, ms_a, ms_aa, ms_ai, ms_aii, ms_al, ca]
        exact Or.inr ⟨hok2, Or.inl ⟨w1, rfl, hh⟩⟩
      · simp only [mv_wps, mv_exq, mv_exr, mv_exn, mv_xg, mv_xpi, mv_xpl, mv_xpr, mv_xc, mv_xc2, mv_xs, mv_9z, mv_cqs, mv_calls, mv_lgz, mv_stz, mv_kz, mv_cz, mv_fvs, mv_ats, mv_ics, mv_rz, mv_tz, mv_cns, mv_nfs, mv_fins, mv_det, mv_cc, mv_c0, Nat.reduceAdd, Nat.reduceEqDiff, Nat.reduceLT, Nat.reduceLeDiff, Nat.reduceSub, reduceIte, decide_false, decide_true, Bool.false_eq_true, List.map_cons, List.map_nil, List.sum_cons, List.sum_nil, true_and, and_true, true_or, or_true, false_or, or_false, false_and, and_false, true_implies, false_implies, implies_true, not_true_eq_false, not_false_eq_true, lg_cmp_ge, lg_cmp_le, lg_cmp_gt, lg_cmp_lt, lg_cmp_eq, qX6_scale, flX6s, cIX6s, cLX6s, csX6_scale, sX6_scale, sX6_latticeAt, sX6_freeLattice, sX1_copy, sX1_multiply, sX6_keepIfSmall, ms_a, ms_aa, ms_ai, ms_aii, ms_al, ca]
        exact Or.inr ⟨hok2, Or.inr ⟨w1, by rw [cC], h1, w2, by rw [cC]; exact hh⟩⟩
    · exact Or.inl (fun q => z2 q.2.2)
  · have hno : ¬ slOK h x1 x2 := fun z => hok z.1
    by_cases hin : inR (sbC h) x1
    · have hf : ¬ sbC h < 20 := fun z => hok ⟨hin, z⟩
      have eF : sbFree h = .null := if_neg hf
      have eA : sbAt h x1 = .ref (37 + 6 * x1.toNatClampNeg) := if_pos hin
      refine mv_go hX 60 ?_
      simp only [mv_wps, mv_exq, mv_exr, mv_exn, mv_xg, mv_xpi, mv_xpl, mv_xpr, mv_xc, mv_xc2, mv_xs, mv_9z, mv_cqs, mv_calls, mv_lgz, mv_stz, mv_kz, mv_cz, mv_fvs, mv_ats, mv_ics, mv_rz, mv_tz, mv_cns, mv_nfs, mv_fins, mv_det, mv_cc, mv_c0, Nat.reduceAdd, Nat.reduceEqDiff, Nat.reduceLT, Nat.reduceLeDiff, Nat.reduceSub, reduceIte, decide_false, decide_true, Bool.false_eq_true, List.map_cons, List.map_nil, List.sum_cons, List.sum_nil, true_and, and_true, true_or, or_true, false_or, or_false, false_and, and_false, true_implies, false_implies, implies_true, not_true_eq_false, not_false_eq_true, lg_cmp_ge, lg_cmp_le, lg_cmp_gt, lg_cmp_lt, lg_cmp_eq, qX6_scale, flX6s, cIX6s, cLX6s, csX6_scale, sX6_scale, sX6_latticeAt, sX6_freeLattice, sX1_copy, sX1_multiply, sX6_keepIfSmall, ms_a, ms_aa, ms_ai, ms_aii, ms_al, K1, hS, eF, eA]
      exact Or.inl hno
    · have eA : sbAt h x1 = .null := if_neg hin
      by_cases hf : sbC h < 20
      · have eF : sbFree h = .ref (37 + 6 * sbC h) := if_pos hf
        refine mv_go hX 60 ?_
        simp only [mv_wps, mv_exq, mv_exr, mv_exn, mv_xg, mv_xpi, mv_xpl, mv_xpr, mv_xc, mv_xc2, mv_xs, mv_9z, mv_cqs, mv_calls, mv_lgz, mv_stz, mv_kz, mv_cz, mv_fvs, mv_ats, mv_ics, mv_rz, mv_tz, mv_cns, mv_nfs, mv_fins, mv_det, mv_cc, mv_c0, Nat.reduceAdd, Nat.reduceEqDiff, Nat.reduceLT, Nat.reduceLeDiff, Nat.reduceSub, reduceIte, decide_false, decide_true, Bool.false_eq_true, List.map_cons, List.map_nil, List.sum_cons, List.sum_nil, true_and, and_true, true_or, or_true, false_or, or_false, false_and, and_false, true_implies, false_implies, implies_true, not_true_eq_false, not_false_eq_true, lg_cmp_ge, lg_cmp_le, lg_cmp_gt, lg_cmp_lt, lg_cmp_eq, qX6_scale, flX6s, cIX6s, cLX6s, csX6_scale, sX6_scale, sX6_latticeAt, sX6_freeLattice, sX1_copy, sX1_multiply, sX6_keepIfSmall, ms_a, ms_aa, ms_ai, ms_aii, ms_al, K1, hS, eF, eA]
        exact Or.inl hno
      · have eF : sbFree h = .null := if_neg hf
        refine mv_go hX 60 ?_
        simp only [mv_wps, mv_exq, mv_exr, mv_exn, mv_xg, mv_xpi, mv_xpl, mv_xpr, mv_xc, mv_xc2, mv_xs, mv_9z, mv_cqs, mv_calls, mv_lgz, mv_stz, mv_kz, mv_cz, mv_fvs, mv_ats, mv_ics, mv_rz, mv_tz, mv_cns, mv_nfs, mv_fins, mv_det, mv_cc, mv_c0, Nat.reduceAdd, Nat.reduceEqDiff, Nat.reduceLT, Nat.reduceLeDiff, Nat.reduceSub, reduceIte, decide_false, decide_true, Bool.false_eq_true, List.map_cons, List.map_nil, List.sum_cons, List.sum_nil, true_and, and_true, true_or, or_true, false_or, or_false, false_and, and_false, true_implies, false_implies, implies_true, not_true_eq_false, not_false_eq_true, lg_cmp_ge, lg_cmp_le, lg_cmp_gt, lg_cmp_lt, lg_cmp_eq, qX6_scale, flX6s, cIX6s, cLX6s, csX6_scale, sX6_scale, sX6_latticeAt, sX6_freeLattice, sX1_copy, sX1_multiply, sX6_keepIfSmall, ms_a, ms_aa, ms_ai, ms_aii, ms_al, K1, hS, eF, eA]
        exact Or.inl hno
