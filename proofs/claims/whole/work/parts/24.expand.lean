set_option maxRecDepth 100000 in
set_option maxHeartbeats 4000000 in
theorem ctX1_expandD {l : Launch} {b : Nat} {ad : Nat → Nat} {D : va_G} {cA : Nat → ClassId} {kd : List (Nat × Nat)} (had : ∀ i, i < kd.length → ad i = b + i) : ∀ d, mv_Ct l b ad D cA kd yX1_expand cX1_expand 13 (some .long) (4 + d) (sX1_expandD d kd) := by
  intro d
  induction d with
  | zero =>
    refine mv_introF (rk := 3) (cs := mv_cc 38 1 2 (sX1_at kd) mv_c0) tX1_expand (mv_pf plRX1) kX1_expand had ⟨(fun e => by cases e), (fun e => by cases e), (fun e => by cases e), (fun _ => rfl), (fun e => by cases e)⟩ (mv_oV lRX1_38 zX1_at rfl (by decide) (ctX1_at had) ⟨by decide, by decide⟩ (mv_o0 flX1_ok cIX1_ok cLX1_ok)) ?_
    intro h as hp
    obtain ⟨x0, x1, x2, x3, x4, rfl, hq⟩ := ms_aiiii_inv hp
    refine ⟨Nat.le_of_ble_eq_true rfl, fun X hX => ?_⟩
    obtain ⟨hg, ⟨e1, h1⟩, h2⟩ := hq
    generalize hi : x1.toNatClampNeg = f at e1 h1 h2
    subst e1
    have h4 : ¬ nI f < 4 := by
      rw [nI_c4, nI_ltI (by omega) (by omega)]; omega
    have h5 : ¬ nI f + 1 < 4 := by
      rw [nI_c4, nI_1, nI_ltI (by omega) (by omega)]; omega
    show X 0 [some (.ref x0), some (.int (nI f)), some (.int x2), some (.int x3), some (.int x4), none, none, none, none, none, none, none, none] [] h
    refine mv_go hX 60 ?_
    simp only [mv_wps, mv_exq, mv_exr, mv_exn, mv_xg, mv_xpi, mv_xpl, mv_xpr, mv_xc, mv_xc2, mv_xs, mv_9z, mv_cqs, mv_calls, mv_lgz, mv_stz, mv_kz, mv_cz, mv_fvs, mv_ats, mv_ics, mv_rz, mv_tz, mv_cns, mv_nfs, mv_fins, mv_det, mv_cc, mv_c0, Nat.reduceAdd, Nat.reduceEqDiff, Nat.reduceLT, Nat.reduceLeDiff, Nat.reduceSub, reduceIte, decide_false, decide_true, Bool.false_eq_true, List.map_cons, List.map_nil, List.sum_cons, List.sum_nil, true_and, and_true, true_or, or_true, false_or, or_false, false_and, and_false, true_implies, false_implies, implies_true, not_true_eq_false, not_false_eq_true, lg_cmp_ge, lg_cmp_le, lg_cmp_gt, lg_cmp_lt, lg_cmp_eq, qX1_expand, flX1s, cIX1s, cLX1s, csX1_expand, sX1_expand, sX1_at, sX1_expand, ms_aii, ms_aiiii, sX1_expandD, exF, h4, h5]
  | succ d ihd =>
    refine mv_introF (rk := 3) (cs := csX1_expand d kd) tX1_expand (mv_pf plRX1) kX1_expand had ⟨(fun e => by cases e), (fun e => by cases e), (fun e => by cases e), (fun _ => rfl), (fun e => by cases e)⟩ (mv_oV lRX1_38 zX1_at rfl (by decide) (ctX1_at had) ⟨by show 1 + 2 ≤ 4 + (d + 1) + 1; omega, by show 8 + (3 + 11) + 100 * (1 + 1) ≤ 100 * (4 + (d + 1) + 1); omega⟩ (mv_oV lRX1_65 zX1_expand rfl (by decide) ihd ⟨by show 4 + d + 2 ≤ 4 + (d + 1) + 1; omega, by show 8 + (13 + 11) + 100 * (4 + d + 1) ≤ 100 * (4 + (d + 1) + 1); omega⟩ (mv_o0 flX1_ok cIX1_ok cLX1_ok))) ?_
    intro h as hp
    obtain ⟨x0, x1, x2, x3, x4, rfl, hq⟩ := ms_aiiii_inv hp
    refine ⟨Nat.le_of_ble_eq_true rfl, fun X hX => ?_⟩
    obtain ⟨hg, ⟨e1, h1⟩, h2⟩ := hq
    generalize hi : x1.toNatClampNeg = f at e1 h1 h2
    subst e1
    have hn4 := hg.2.2.2.2
    have loop : ∀ a, a < 4 → f ≤ a → nI a = (if nI f = x3 then nI f + 1 else nI f) → ¬ x2 ≤ nI a → ∀ k, k ≤ gn h x0 → ∀ o o' o'', X 37 [some (.ref x0), some (.int (nI f)), some (.int x2), some (.int x3), some (.int x4), some (.int (nI a)), some (.long (exL (gAt h x0) (nI a) x4 (fun q => exF (gAt h x0) (gn h x0) d (nI a + 1) x2 x3 q) k).1), o, some (.long (exL (gAt h x0) (nI a) x4 (fun q => exF (gAt h x0) (gn h x0) d (nI a + 1) x2 x3 q) k).2), none, some (.int (nI k)), o', o''] [] h := by
      intro a ha4 hfa hae hau
      refine mv_up (gn h x0) ?_
      intro k hk ih o o' o''
      have ihh := fun z => ih z
      refine mv_go hX 80 ?_
      have hN : gOk kd h x0 ∧ isN (nI a + 1) 6 ∧ 4 ≤ (nI a + 1).toNatClampNeg + d := by
        refine ⟨hg, ?_, ?_⟩
        · rw [nI_1]; exact isN.nI (by omega) (by omega)
        · rw [nI_1, nI_clamp (by omega)]
          omega
      simp only [mv_wps, mv_exq, mv_exr, mv_exn, mv_xg, mv_xpi, mv_xpl, mv_xpr, mv_xc, mv_xc2, mv_xs, mv_9z, mv_cqs, mv_calls, mv_lgz, mv_stz, mv_kz, mv_cz, mv_fvs, mv_ats, mv_ics, mv_rz, mv_tz, mv_cns, mv_nfs, mv_fins, mv_det, mv_cc, mv_c0, Nat.reduceAdd, Nat.reduceEqDiff, Nat.reduceLT, Nat.reduceLeDiff, Nat.reduceSub, reduceIte, decide_false, decide_true, Bool.false_eq_true, List.map_cons, List.map_nil, List.sum_cons, List.sum_nil, true_and, and_true, true_or, or_true, false_or, or_false, false_and, and_false, true_implies, false_implies, implies_true, not_true_eq_false, not_false_eq_true, lg_cmp_ge, lg_cmp_le, lg_cmp_gt, lg_cmp_lt, lg_cmp_eq, qX1_expand, flX1s, cIX1s, cLX1s, csX1_expand, sX1_expand, sX1_at, sX1_expand, ms_aii, ms_aiiii, sX1_expandD, hg.1, hg, hg.2.2.2.1]
      refine ⟨fun hc => ?_, fun hc => ?_⟩
      · rw [nI_leI (by omega) (by omega)] at hc
        obtain rfl : k = gn h x0 := by omega
        have e : exF (gAt h x0) (gn h x0) (d + 1) (nI f) x2 x3 x4 = (exL (gAt h x0) (nI a) x4 (fun q => exF (gAt h x0) (gn h x0) d (nI a + 1) x2 x3 q) (gn h x0)).1 := by
          rw [exF, ← hae, if_neg hau, if_pos (by rw [nI_c4, nI_ltI (by omega) (by omega)]; omega)]
        rw [e]
      · rw [nI_leI (by omega) (by omega)] at hc
        have w := ih (by omega)
        rw [nI_1 k]
        refine ⟨fun h1 => ?_, fun h1 => ⟨fun h3 => ?_, fun h3 => ?_⟩⟩
        · rw [exL, if_pos h1] at w
          exact w _ _ _
        · rw [exL, if_neg h1, if_pos h3] at w
          exact w _ _ _
        · rw [exL, if_neg h1, if_neg h3] at w
          exact ⟨hN.2, w _ _ _⟩
    have hL0 : ∀ A line p r, exL A line p r 0 = (0, 1) := fun _ _ _ _ => rfl
    show X 0 [some (.ref x0), some (.int (nI f)), some (.int x2), some (.int x3), some (.int x4), none, none, none, none, none, none, none, none] [] h
    refine mv_go hX 60 ?_
    simp only [mv_wps, mv_exq, mv_exr, mv_exn, mv_xg, mv_xpi, mv_xpl, mv_xpr, mv_xc, mv_xc2, mv_xs, mv_9z, mv_cqs, mv_calls, mv_lgz, mv_stz, mv_kz, mv_cz, mv_fvs, mv_ats, mv_ics, mv_rz, mv_tz, mv_cns, mv_nfs, mv_fins, mv_det, mv_cc, mv_c0, Nat.reduceAdd, Nat.reduceEqDiff, Nat.reduceLT, Nat.reduceLeDiff, Nat.reduceSub, reduceIte, decide_false, decide_true, Bool.false_eq_true, List.map_cons, List.map_nil, List.sum_cons, List.sum_nil, true_and, and_true, true_or, or_true, false_or, or_false, false_and, and_false, true_implies, false_implies, implies_true, not_true_eq_false, not_false_eq_true, lg_cmp_ge, lg_cmp_le, lg_cmp_gt, lg_cmp_lt, lg_cmp_eq, qX1_expand, flX1s, cIX1s, cLX1s, csX1_expand, sX1_expand, sX1_at, sX1_expand, ms_aii, ms_aiiii, sX1_expandD, hg.1, hg, hg.2.2.2.1]
    refine ⟨fun h0 => ⟨fun h3 => ?_, fun h3 => ⟨fun h4 => ?_, fun h4 => ?_⟩⟩, fun h0 => ⟨fun h3 => ?_, fun h3 => ⟨fun h4 => ?_, fun h4 => ?_⟩⟩⟩
    · rw [exF, if_neg h0, if_pos h3]
    · have h4' := h4
      rw [nI_c4, nI_ltI (by omega) (by omega)] at h4'
      have w := loop f h4' (Nat.le_refl _) (by rw [if_neg h0]) h3 0 (by omega) none none none
      rw [hL0] at w
      exact w
    · rw [exF, if_neg h0, if_neg h3, if_neg h4]
    · have h0 := Classical.not_not.mp h0
      rw [exF, if_pos h0, if_pos h3]
    · have h0 := Classical.not_not.mp h0
      have h4' := h4
      rw [nI_c4, nI_1, nI_ltI (by omega) (by omega)] at h4'
      rw [nI_1] at h3 ⊢
      have w := loop (f + 1) h4' (by omega) (by rw [if_pos h0, nI_1]) h3 0 (by omega) none none none
      rw [hL0] at w
      exact w
    · have h0 := Classical.not_not.mp h0
      rw [exF, if_pos h0, if_neg h3, if_neg h4]
theorem ctX1_expand {l : Launch} {b : Nat} {ad : Nat → Nat} {D : va_G} {cA : Nat → ClassId} {kd : List (Nat × Nat)} (had : ∀ i, i < kd.length → ad i = b + i) : mv_Ct l b ad D cA kd yX1_expand cX1_expand 13 (some .long) 8 (sX1_expand kd) := ctX1_expandD had 4
/-- the determinant of the first k lines and places, as the machine has it -/
def gDet (h : mv_M) (g : Nat) (k : Int32) : Int64 := exF (gAt h g) (gn h g) 4 0 k (-1) ((1 : Int32) <<< (k &&& 31) - 1)
def gCof (h : mv_M) (g : Nat) (i k : Int32) : Int64 := exF (gAt h g) (gn h g) 4 0 (h.1 g 0) i (((1 : Int32) <<< (h.1 g 0 &&& 31) - 1) &&& ((1 : Int32) <<< (k &&& 31) ^^^ -1))
theorem isN_0 : isN 0 6 ∧ 4 ≤ Int32.toNatClampNeg 0 + 4 := ⟨⟨by decide, by decide⟩, by decide⟩
def sX1_determinant (kd : List (Nat × Nat)) : mv_S := ms_a (fun g h => gOk kd h g) (fun g h v h' => v = some (.long (gDet h g (h.1 g 0))) ∧ h' = h)
def csX1_determinant (kd : List (Nat × Nat)) : mv_CS := (mv_cc 65 1 4 (sX1_expand kd) mv_c0)
theorem oX1_determinant {l : Launch} {b : Nat} {ad : Nat → Nat} {D : va_G} {cA : Nat → ClassId} {kd : List (Nat × Nat)} (had : ∀ i, i < kd.length → ad i = b + i) : mv_Own l (mv_room 9) b ad D cA kd RX1 flX1 cIX1 cLX1 (csX1_determinant kd) := (mv_oV lRX1_65 zX1_expand rfl (by decide) (ctX1_expand had) ⟨by decide, by decide⟩ (mv_o0 flX1_ok cIX1_ok cLX1_ok))
set_option maxRecDepth 100000 in
set_option maxHeartbeats 4000000 in
theorem ctX1_determinant {l : Launch} {b : Nat} {ad : Nat → Nat} {D : va_G} {cA : Nat → ClassId} {kd : List (Nat × Nat)} (had : ∀ i, i < kd.length → ad i = b + i) : mv_Ct l b ad D cA kd yX1_determinant cX1_determinant 1 (some .long) 9 (sX1_determinant kd) := by
  refine mv_introF (rk := 3) tX1_determinant (mv_pf plRX1) kX1_determinant had ⟨(fun e => by cases e), (fun e => by cases e), (fun e => by cases e), (fun _ => rfl), (fun e => by cases e)⟩ (oX1_determinant had) ?_
  intro h as hp
  obtain ⟨x0, rfl, hq⟩ := ms_a_inv hp
  refine ⟨Nat.le_of_ble_eq_true rfl, fun X hX => ?_⟩
  show X 0 [some (.ref x0)] [] h
  refine mv_go hX 60 ?_
  simp only [mv_wps, mv_exq, mv_exr, mv_exn, mv_xg, mv_xpi, mv_xpl, mv_xpr, mv_xc, mv_xc2, mv_xs, mv_9z, mv_cqs, mv_calls, mv_lgz, mv_stz, mv_kz, mv_cz, mv_fvs, mv_ats, mv_ics, mv_rz, mv_tz, mv_cns, mv_nfs, mv_fins, mv_det, mv_cc, mv_c0, Nat.reduceAdd, Nat.reduceEqDiff, Nat.reduceLT, Nat.reduceLeDiff, Nat.reduceSub, reduceIte, decide_false, decide_true, Bool.false_eq_true, List.map_cons, List.map_nil, List.sum_cons, List.sum_nil, true_and, and_true, true_or, or_true, false_or, or_false, false_and, and_false, true_implies, false_implies, implies_true, not_true_eq_false, not_false_eq_true, lg_cmp_ge, lg_cmp_le, lg_cmp_gt, lg_cmp_lt, lg_cmp_eq, qX1_determinant, flX1s, cIX1s, cLX1s, csX1_determinant, sX1_determinant, sX1_expand, ms_a, ms_aiiii, sX1_expandD, hq.1, hq, isN_0.1, isN_0.2]
  rfl
def sX1_cofactor (kd : List (Nat × Nat)) : mv_S := ms_aii (fun g _ _ h => gOk kd h g) (fun g i k h v h' => v = some (.long (if (i + k) - (i + k) / 2 * 2 = 0 then gCof h g i k else - gCof h g i k)) ∧ h' = h)
def csX1_cofactor (kd : List (Nat × Nat)) : mv_CS := (mv_cc 65 1 4 (sX1_expand kd) mv_c0)
theorem oX1_cofactor {l : Launch} {b : Nat} {ad : Nat → Nat} {D : va_G} {cA : Nat → ClassId} {kd : List (Nat × Nat)} (had : ∀ i, i < kd.length → ad i = b + i) : mv_Own l (mv_room 9) b ad D cA kd RX1 flX1 cIX1 cLX1 (csX1_cofactor kd) := (mv_oV lRX1_65 zX1_expand rfl (by decide) (ctX1_expand had) ⟨by decide, by decide⟩ (mv_o0 flX1_ok cIX1_ok cLX1_ok))
set_option maxRecDepth 100000 in
set_option maxHeartbeats 4000000 in
theorem ctX1_cofactor {l : Launch} {b : Nat} {ad : Nat → Nat} {D : va_G} {cA : Nat → ClassId} {kd : List (Nat × Nat)} (had : ∀ i, i < kd.length → ad i = b + i) : mv_Ct l b ad D cA kd yX1_cofactor cX1_cofactor 5 (some .long) 9 (sX1_cofactor kd) := by
  refine mv_introF (rk := 3) tX1_cofactor (mv_pf plRX1) kX1_cofactor had ⟨(fun e => by cases e), (fun e => by cases e), (fun e => by cases e), (fun _ => rfl), (fun e => by cases e)⟩ (oX1_cofactor had) ?_
  intro h as hp
  obtain ⟨x0, x1, x2, rfl, hq⟩ := ms_aii_inv hp
  refine ⟨Nat.le_of_ble_eq_true rfl, fun X hX => ?_⟩
  show X 0 [some (.ref x0), some (.int x1), some (.int x2), none, none] [] h
  refine mv_go hX 60 ?_
  simp only [mv_wps, mv_exq, mv_exr, mv_exn, mv_xg, mv_xpi, mv_xpl, mv_xpr, mv_xc, mv_xc2, mv_xs, mv_9z, mv_cqs, mv_calls, mv_lgz, mv_stz, mv_kz, mv_cz, mv_fvs, mv_ats, mv_ics, mv_rz, mv_tz, mv_cns, mv_nfs, mv_fins, mv_det, mv_cc, mv_c0, Nat.reduceAdd, Nat.reduceEqDiff, Nat.reduceLT, Nat.reduceLeDiff, Nat.reduceSub, reduceIte, decide_false, decide_true, Bool.false_eq_true, List.map_cons, List.map_nil, List.sum_cons, List.sum_nil, true_and, and_true, true_or, or_true, false_or, or_false, false_and, and_false, true_implies, false_implies, implies_true, not_true_eq_false, not_false_eq_true, lg_cmp_ge, lg_cmp_le, lg_cmp_gt, lg_cmp_lt, lg_cmp_eq, qX1_cofactor, flX1s, cIX1s, cLX1s, csX1_cofactor, sX1_cofactor, sX1_expand, ms_aii, ms_aiiii, sX1_expandD, hq.1, hq, isN_0.1, isN_0.2]
  refine ⟨by decide, fun h1 => ?_, fun h1 => ?_⟩
  · rw [if_neg h1]
    rfl
  · rw [if_pos (Classical.not_not.mp h1)]
    rfl
def sX1_firstFlatCorner (kd : List (Nat × Nat)) : mv_S := ms_a (fun g h => gOk kd h g) (fun g h v h' => ((v = some (.int 0) ∧ ∀ k, 1 ≤ k → k ≤ gn h g → 0 < gDet h g (nI k)) ∨ (∃ k, v = some (.int (nI k)) ∧ 1 ≤ k ∧ k ≤ gn h g ∧ ¬ 0 < gDet h g (nI k) ∧ ∀ j, 1 ≤ j → j < k → 0 < gDet h g (nI j))) ∧ h' = h)
def csX1_firstFlatCorner (kd : List (Nat × Nat)) : mv_CS := (mv_cc 65 1 4 (sX1_expand kd) mv_c0)
theorem oX1_firstFlatCorner {l : Launch} {b : Nat} {ad : Nat → Nat} {D : va_G} {cA : Nat → ClassId} {kd : List (Nat × Nat)} (had : ∀ i, i < kd.length → ad i = b + i) : mv_Own l (mv_room 9) b ad D cA kd RX1 flX1 cIX1 cLX1 (csX1_firstFlatCorner kd) := (mv_oV lRX1_65 zX1_expand rfl (by decide) (ctX1_expand had) ⟨by decide, by decide⟩ (mv_o0 flX1_ok cIX1_ok cLX1_ok))
set_option maxRecDepth 100000 in
set_option maxHeartbeats 4000000 in
theorem ctX1_firstFlatCorner {l : Launch} {b : Nat} {ad : Nat → Nat} {D : va_G} {cA : Nat → ClassId} {kd : List (Nat × Nat)} (had : ∀ i, i < kd.length → ad i = b + i) : mv_Ct l b ad D cA kd yX1_firstFlatCorner cX1_firstFlatCorner 2 (some .int) 9 (sX1_firstFlatCorner kd) := by
  refine mv_introF (rk := 1) tX1_firstFlatCorner (mv_pf plRX1) kX1_firstFlatCorner had ⟨(fun e => by cases e), (fun _ => rfl), (fun e => by cases e), (fun e => by cases e), (fun e => by cases e)⟩ (oX1_firstFlatCorner had) ?_
  intro h as hp
  obtain ⟨x0, rfl, hq⟩ := ms_a_inv hp
  refine ⟨Nat.le_of_ble_eq_true rfl, fun X hX => ?_⟩
  show X 0 [some (.ref x0), none] [] h
  have hn4 := hq.2.2.2.2
  have loop : ∀ i, i ≤ gn h x0 → (∀ j, 1 ≤ j → j < i + 1 → 0 < gDet h x0 (nI j)) → X 2 [some (.ref x0), some (.int (nI (i + 1)))] [] h := by
    refine mv_up (gn h x0) ?_
    intro i hi ih hall
    refine mv_go hX 60 ?_
    simp only [mv_wps, mv_exq, mv_exr, mv_exn, mv_xg, mv_xpi, mv_xpl, mv_xpr, mv_xc, mv_xc2, mv_xs, mv_9z, mv_cqs, mv_calls, mv_lgz, mv_stz, mv_kz, mv_cz, mv_fvs, mv_ats, mv_ics, mv_rz, mv_tz, mv_cns, mv_nfs, mv_fins, mv_det, mv_cc, mv_c0, Nat.reduceAdd, Nat.reduceEqDiff, Nat.reduceLT, Nat.reduceLeDiff, Nat.reduceSub, reduceIte, decide_false, decide_true, Bool.false_eq_true, List.map_cons, List.map_nil, List.sum_cons, List.sum_nil, true_and, and_true, true_or, or_true, false_or, or_false, false_and, and_false, true_implies, false_implies, implies_true, not_true_eq_false, not_false_eq_true, lg_cmp_ge, lg_cmp_le, lg_cmp_gt, lg_cmp_lt, lg_cmp_eq, qX1_firstFlatCorner, flX1s, cIX1s, cLX1s, csX1_firstFlatCorner, sX1_firstFlatCorner, sX1_expand, ms_a, ms_aiiii, sX1_expandD, hq.1, hq, hq.2.2.2.1, isN_0.1, isN_0.2]
    refine ⟨fun hc => ?_, fun hc => ?_⟩
    · rw [nI_ltI (by omega) (by omega)] at hc
      exact Or.inl (fun k h1 h2 => hall k h1 (by omega))
    · rw [nI_ltI (by omega) (by omega)] at hc
      refine ⟨fun h1 => ?_, fun h1 => Or.inr ⟨i + 1, rfl, by omega, by omega, h1, hall⟩⟩
      rw [nI_1]
      refine ih (by omega) (fun j hj1 hj2 => ?_)
      by_cases e : j = i + 1
      · subst e; exact h1
      · exact hall j hj1 (by omega)
  refine mv_go hX 60 ?_
  simp only [mv_wps, mv_exq, mv_exr, mv_exn, mv_xg, mv_xpi, mv_xpl, mv_xpr, mv_xc, mv_xc2, mv_xs, mv_9z, mv_cqs, mv_calls, mv_lgz, mv_stz, mv_kz, mv_cz, mv_fvs, mv_ats, mv_ics, mv_rz, mv_tz, mv_cns, mv_nfs, mv_fins, mv_det, mv_cc, mv_c0, Nat.reduceAdd, Nat.reduceEqDiff, Nat.reduceLT, Nat.reduceLeDiff, Nat.reduceSub, reduceIte, decide_false, decide_true, Bool.false_eq_true, List.map_cons, List.map_nil, List.sum_cons, List.sum_nil, true_and, and_true, true_or, or_true, false_or, or_false, false_and, and_false, true_implies, false_implies, implies_true, not_true_eq_false, not_false_eq_true, lg_cmp_ge, lg_cmp_le, lg_cmp_gt, lg_cmp_lt, lg_cmp_eq, qX1_firstFlatCorner, flX1s, cIX1s, cLX1s, csX1_firstFlatCorner, sX1_firstFlatCorner, sX1_expand, ms_a, ms_aiiii, sX1_expandD, hq.1, hq, hq.2.2.2.1, isN_0.1, isN_0.2]
  exact loop 0 (by omega) (fun j z w => absurd z (by omega))
