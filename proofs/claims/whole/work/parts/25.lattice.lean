/-! Lattices: a form, its cofactors, facts, worth. -/
def laOk (kd : List (Nat × Nat)) (h : mv_M) (a : Nat) : Prop := mv_k kd a = (0, 3) ∧ mv_k kd (a + 5) = (2, 7) ∧ h.2.2 a 0 = some (a + 1) ∧ h.2.2 a 1 = some (a + 3) ∧ h.2.2 a 2 = some (a + 5) ∧ gOk kd h (a + 1) ∧ gOk kd h (a + 3)
def sX3_ways (kd : List (Nat × Nat)) : mv_S := ms_a (fun a h => laOk kd h a) (fun a h v h' => v = some (.int (h.1 (a + 1) 0)) ∧ h' = h)
noncomputable def csX3_ways (kd : List (Nat × Nat)) : mv_CS := (mv_cc 29 1 0 (sX1_lines kd) mv_c0)
theorem oX3_ways {l : Launch} {b : Nat} {ad : Nat → Nat} {D : va_G} {cA : Nat → ClassId} {kd : List (Nat × Nat)} (had : ∀ i, i < kd.length → ad i = b + i) : mv_Own l (mv_room 1) b ad D cA kd RX3 flX3 cIX3 cLX3 (csX3_ways kd) := (mv_oV lRX3_29 zX1_lines rfl (by decide) (ctX1_lines had) ⟨by decide, by decide⟩ (mv_o0 flX3_ok cIX3_ok cLX3_ok))
set_option maxRecDepth 100000 in
set_option maxHeartbeats 4000000 in
theorem ctX3_ways {l : Launch} {b : Nat} {ad : Nat → Nat} {D : va_G} {cA : Nat → ClassId} {kd : List (Nat × Nat)} (had : ∀ i, i < kd.length → ad i = b + i) : mv_Ct l b ad D cA kd yX3_ways cX3_ways 1 (some .int) 1 (sX3_ways kd) := by
  refine mv_introF (rk := 1) tX3_ways (mv_pf plRX3) kX3_ways had ⟨(fun e => by cases e), (fun _ => rfl), (fun e => by cases e), (fun e => by cases e), (fun e => by cases e)⟩ (oX3_ways had) ?_
  intro h as hp
  obtain ⟨x0, rfl, hq⟩ := ms_a_inv hp
  refine ⟨Nat.le_of_ble_eq_true rfl, fun X hX => ?_⟩
  show X 0 [some (.ref x0)] [] h
  obtain ⟨k1, k2, r1, r2, r3, g1, g2⟩ := hq
  refine mv_go hX 60 ?_
  simp only [mv_wps, mv_exq, mv_exr, mv_exn, mv_xg, mv_xpi, mv_xpl, mv_xpr, mv_xc, mv_xc2, mv_xs, mv_9z, mv_cqs, mv_calls, mv_lgz, mv_stz, mv_kz, mv_cz, mv_fvs, mv_ats, mv_ics, mv_rz, mv_tz, mv_cns, mv_nfs, mv_fins, mv_det, mv_cc, mv_c0, Nat.reduceAdd, Nat.reduceEqDiff, Nat.reduceLT, Nat.reduceLeDiff, Nat.reduceSub, reduceIte, decide_false, decide_true, Bool.false_eq_true, List.map_cons, List.map_nil, List.sum_cons, List.sum_nil, true_and, and_true, true_or, or_true, false_or, or_false, false_and, and_false, true_implies, false_implies, implies_true, not_true_eq_false, not_false_eq_true, lg_cmp_ge, lg_cmp_le, lg_cmp_gt, lg_cmp_lt, lg_cmp_eq, qX3_ways, flX3s, cIX3s, cLX3s, csX3_ways, sX3_ways, sX1_lines, ms_a, k1, r1, r2, r3, g1, g2, g1.1]
def laSteps (h : mv_M) (a : Nat) (x y z : Int64) : mv_M := mv_sl (mv_sl (mv_sl h (a + 5) 3 x) (a + 5) 4 y) (a + 5) 5 z
def sX3_setStepFacts (kd : List (Nat × Nat)) : mv_S := ms_alll (fun a _ _ _ h => laOk kd h a) (fun a x y z h v h' => v = none ∧ h' = laSteps h a x y z)
theorem clampC : Int32.toNatClampNeg 0 = 0 ∧ Int32.toNatClampNeg 1 = 1 ∧ Int32.toNatClampNeg 2 = 2 ∧ Int32.toNatClampNeg 3 = 3 ∧ Int32.toNatClampNeg 4 = 4 ∧ Int32.toNatClampNeg 5 = 5 ∧ Int32.toNatClampNeg 6 = 6 := by decide
theorem vpC {n : Nat} : (6 < n → n < 2 ^ 31 → vp_in 0 n ∧ vp_in 1 n ∧ vp_in 2 n ∧ vp_in 3 n ∧ vp_in 4 n ∧ vp_in 5 n ∧ vp_in 6 n) := fun h1 h2 =>
  ⟨vp_in_nI (n := 0) (by omega) h2, vp_in_nI (n := 1) (by omega) h2, vp_in_nI (n := 2) (by omega) h2, vp_in_nI (n := 3) (by omega) h2, vp_in_nI (n := 4) (by omega) h2, vp_in_nI (n := 5) (by omega) h2, vp_in_nI (n := 6) (by omega) h2⟩
theorem mv_slR (h : mv_M) (o k : Nat) (v : Int64) : (mv_sl h o k v).2.2 = h.2.2 ∧ (mv_sl h o k v).1 = h.1 := ⟨rfl, rfl⟩
theorem mv_siR (h : mv_M) (o k : Nat) (v : Int32) : (mv_si h o k v).2.2 = h.2.2 ∧ (mv_si h o k v).2.1 = h.2.1 := ⟨rfl, rfl⟩
noncomputable def csX3_setStepFacts (kd : List (Nat × Nat)) : mv_CS := mv_c0
theorem oX3_setStepFacts {l : Launch} {b : Nat} {ad : Nat → Nat} {D : va_G} {cA : Nat → ClassId} {kd : List (Nat × Nat)} (had : ∀ i, i < kd.length → ad i = b + i) : mv_Own l (mv_room 0) b ad D cA kd RX3 flX3 cIX3 cLX3 (csX3_setStepFacts kd) := (mv_o0 flX3_ok cIX3_ok cLX3_ok)
set_option maxRecDepth 100000 in
set_option maxHeartbeats 4000000 in
theorem ctX3_setStepFacts {l : Launch} {b : Nat} {ad : Nat → Nat} {D : va_G} {cA : Nat → ClassId} {kd : List (Nat × Nat)} (had : ∀ i, i < kd.length → ad i = b + i) : mv_Ct l b ad D cA kd yX3_setStepFacts cX3_setStepFacts 7 none 0 (sX3_setStepFacts kd) := by
  refine mv_introF (rk := 0) tX3_setStepFacts (mv_pf plRX3) kX3_setStepFacts had ⟨(fun _ => rfl), (fun e => by cases e), (fun e => by cases e), (fun e => by cases e), (fun e => by cases e)⟩ (oX3_setStepFacts had) ?_
  intro h as hp
  obtain ⟨x0, x1, x2, x3, rfl, hq⟩ := ms_alll_inv hp
  refine ⟨Nat.le_of_ble_eq_true rfl, fun X hX => ?_⟩
  show X 0 [some (.ref x0), some (.long x1), none, some (.long x2), none, some (.long x3), none] [] h
  obtain ⟨k1, k2, r1, r2, r3, g1, g2⟩ := hq
  have hl : mv_len kd 2 (x0 + 5) = 7 := by unfold mv_len; rw [k2]; rfl
  have hv := vpC (n := 7) (by omega) (by omega)
  refine mv_go hX 60 ?_
  simp only [mv_wps, mv_exq, mv_exr, mv_exn, mv_xg, mv_xpi, mv_xpl, mv_xpr, mv_xc, mv_xc2, mv_xs, mv_9z, mv_cqs, mv_calls, mv_lgz, mv_stz, mv_kz, mv_cz, mv_fvs, mv_ats, mv_ics, mv_rz, mv_tz, mv_cns, mv_nfs, mv_fins, mv_det, mv_cc, mv_c0, Nat.reduceAdd, Nat.reduceEqDiff, Nat.reduceLT, Nat.reduceLeDiff, Nat.reduceSub, reduceIte, decide_false, decide_true, Bool.false_eq_true, List.map_cons, List.map_nil, List.sum_cons, List.sum_nil, true_and, and_true, true_or, or_true, false_or, or_false, false_and, and_false, true_implies, false_implies, implies_true, not_true_eq_false, not_false_eq_true, lg_cmp_ge, lg_cmp_le, lg_cmp_gt, lg_cmp_lt, lg_cmp_eq, qX3_setStepFacts, flX3s, cIX3s, cLX3s, csX3_setStepFacts, sX3_setStepFacts, ms_alll, k1, r1, r2, r3, hl, mv_slR, hv, clampC]
  rfl
/-- what settle leaves -/
def laSet (h h' : mv_M) (a : Nat) : Prop :=
  h'.2.2 = h.2.2 ∧ (∀ o j, ¬ (o = a + 3 ∧ j = 0) → h'.1 o j = h.1 o j) ∧ h'.1 (a + 3) 0 = h.1 (a + 1) 0 ∧
  (∀ o, o ≠ a → o ≠ a + 4 → o ≠ a + 5 → h'.2.1 o = h.2.1 o) ∧ h'.2.1 a 3 = gDet h (a + 1) (h.1 (a + 1) 0) ∧
  (∀ r c, r < 4 → c < 4 → gE h' (a + 3) r c = if r < gn h (a + 1) ∧ c < gn h (a + 1) then (if (nI c + nI r) - (nI c + nI r) / 2 * 2 = 0 then gCof h (a + 1) (nI c) (nI r) else - gCof h (a + 1) (nI c) (nI r)) else 0) ∧
  h'.2.1 (a + 5) 0 = (h.1 (a + 1) 0).toInt64 ∧ h'.2.1 (a + 5) 1 = gDet h (a + 1) (h.1 (a + 1) 0) ∧
  h'.2.1 (a + 5) 2 = (if b01 (gEven h (a + 1)) = 0 then 0 else 1) ∧
  h'.2.1 (a + 5) 3 = -9 ∧ h'.2.1 (a + 5) 4 = -9 ∧ h'.2.1 (a + 5) 5 = -9 ∧ h'.2.1 (a + 5) 6 = -9
def sX3_settle (kd : List (Nat × Nat)) : mv_S := ms_a (fun a h => laOk kd h a) (fun a h v h' => v = none ∧ laSet h h' a)
theorem gCof_same {h h' : mv_M} {r : Nat} (h1 : h'.1 r 0 = h.1 r 0) (h2 : h'.2.1 (r + 1) = h.2.1 (r + 1)) (i k : Int32) : gCof h' r i k = gCof h r i k := by
  have e : gAt h' r = gAt h r := by funext i k; exact gAt_same h1 h2 i k
  have e2 : gn h' r = gn h r := by unfold gn; rw [h1]
  unfold gCof
  rw [e, e2, h1]
theorem gDet_same {h h' : mv_M} {r : Nat} (h1 : h'.1 r 0 = h.1 r 0) (h2 : h'.2.1 (r + 1) = h.2.1 (r + 1)) (k : Int32) : gDet h' r k = gDet h r k := by
  have e : gAt h' r = gAt h r := by funext i k; exact gAt_same h1 h2 i k
  have e2 : gn h' r = gn h r := by unfold gn; rw [h1]
  unfold gDet
  rw [e, e2]
theorem gOk.sl {kd : List (Nat × Nat)} {h : mv_M} {g o k : Nat} {v : Int64} (z : gOk kd h g) : gOk kd (mv_sl h o k v) g := z
theorem gE_sl_o {h : mv_M} {g o k a c : Nat} {v : Int64} (ho : o ≠ g + 1) : gE (mv_sl h o k v) g a c = gE h g a c := by
  unfold gE mv_sl
  have : ¬ g + 1 = o := fun e => ho e.symm
  simp [this]
noncomputable def csX3_settle (kd : List (Nat × Nat)) : mv_CS := (mv_cc 33 1 0 (sX1_determinant kd) (mv_cc 29 1 0 (sX1_lines kd) (mv_cc 37 1 1 (sX1_open kd) (mv_cc 41 1 2 (sX1_cofactor kd) (mv_cc 45 1 3 (sX1_put kd) (mv_cc 49 1 0 (sX1_isEvenAcross kd) (mv_cc 55 3 3 (sX3_setStepFacts kd) mv_c0)))))))
theorem oX3_settle {l : Launch} {b : Nat} {ad : Nat → Nat} {D : va_G} {cA : Nat → ClassId} {kd : List (Nat × Nat)} (had : ∀ i, i < kd.length → ad i = b + i) : mv_Own l (mv_room 10) b ad D cA kd RX3 flX3 cIX3 cLX3 (csX3_settle kd) := (mv_oV lRX3_33 zX1_determinant rfl (by decide) (ctX1_determinant had) ⟨by decide, by decide⟩ (mv_oV lRX3_29 zX1_lines rfl (by decide) (ctX1_lines had) ⟨by decide, by decide⟩ (mv_oV lRX3_37 zX1_open rfl (by decide) (ctX1_open had) ⟨by decide, by decide⟩ (mv_oV lRX3_41 zX1_cofactor rfl (by decide) (ctX1_cofactor had) ⟨by decide, by decide⟩ (mv_oV lRX3_45 zX1_put rfl (by decide) (ctX1_put had) ⟨by decide, by decide⟩ (mv_oV lRX3_49 zX1_isEvenAcross rfl (by decide) (ctX1_isEvenAcross had) ⟨by decide, by decide⟩ (mv_oV lRX3_55 zX3_setStepFacts rfl (by decide) (ctX3_setStepFacts had) ⟨by decide, by decide⟩ (mv_o0 flX3_ok cIX3_ok cLX3_ok))))))))
set_option maxRecDepth 100000 in
set_option maxHeartbeats 4000000 in
theorem ctX3_settle {l : Launch} {b : Nat} {ad : Nat → Nat} {D : va_G} {cA : Nat → ClassId} {kd : List (Nat × Nat)} (had : ∀ i, i < kd.length → ad i = b + i) : mv_Ct l b ad D cA kd yX3_settle cX3_settle 3 none 10 (sX3_settle kd) := by
  refine mv_introF (rk := 0) tX3_settle (mv_pf plRX3) kX3_settle had ⟨(fun _ => rfl), (fun e => by cases e), (fun e => by cases e), (fun e => by cases e), (fun e => by cases e)⟩ (oX3_settle had) ?_
  intro h as hp
  obtain ⟨x0, rfl, hq⟩ := ms_a_inv hp
  refine ⟨Nat.le_of_ble_eq_true rfl, fun X hX => ?_⟩
  show X 0 [some (.ref x0), none, none] [] h
  obtain ⟨k1, k2, r1, r2, r3, g1, g2⟩ := hq
  have hl : mv_len kd 2 (x0 + 5) = 7 := by unfold mv_len; rw [k2]; rfl
  have hv := vpC (n := 7) (by omega) (by omega)
  have hn4 := g1.2.2.2.2
  have hw := (mv_slR h x0 3 (gDet h (x0 + 1) (h.1 (x0 + 1) 0))).1
  generalize hwe : mv_sl h x0 3 (gDet h (x0 + 1) (h.1 (x0 + 1) 0)) = hW at hw
  have g2w : gOk kd hW (x0 + 3) := by rw [← hwe]; exact g2.sl
  have g1w : gOk kd hW (x0 + 1) := by rw [← hwe]; exact g1.sl
  have eW1 : hW.1 = h.1 := by rw [← hwe]; rfl
  have enW : gn hW (x0 + 1) = gn h (x0 + 1) := by unfold gn; rw [eW1]
  have eWo : ∀ o : Nat, o ≠ x0 → hW.2.1 o = h.2.1 o := fun o ho => by
    rw [← hwe]
    funext j
    simp [mv_sl, ho]
  obtain ⟨hO2, enO⟩ := gOpen_ok g2w hn4
  obtain ⟨hO1, eO1, eO2⟩ := gOpen_other (n := nI (gn h (x0 + 1))) (g := x0 + 3) g1w (by omega)
  rw [← g1.2.2.2.1] at hO2 enO hO1 eO1 eO2
  have hOr : (gOpen hW (x0 + 3) (h.1 (x0 + 1) 0)).2.2 = h.2.2 := hw
  have hO4 : ∀ o : Nat, o ≠ x0 + 4 → (gOpen hW (x0 + 3) (h.1 (x0 + 1) 0)).2.1 o = hW.2.1 o := fun o ho => by
    funext j
    simp [gOpen, gFill, mv_si, ho]
  have hOi : ∀ o j : Nat, ¬ (o = x0 + 3 ∧ j = 0) → (gOpen hW (x0 + 3) (h.1 (x0 + 1) 0)).1 o j = h.1 o j := fun o j ho => by
    rw [← eW1]
    simp [gOpen, gFill, mv_si, ho]
  have hOe : ∀ r c, r < 4 → c < 4 → gE (gOpen hW (x0 + 3) (h.1 (x0 + 1) 0)) (x0 + 3) r c = 0 := fun r c hr hc => by
    have : 4 * r + c < 16 := by omega
    simp [gE, gOpen, gFill, this]
  have hO30 : (gOpen hW (x0 + 3) (h.1 (x0 + 1) 0)).1 (x0 + 3) 0 = h.1 (x0 + 1) 0 := by
    rw [hO2.2.2.2.1, enO]; exact g1.2.2.2.1.symm
  generalize hoe : gOpen hW (x0 + 3) (h.1 (x0 + 1) 0) = hO at hO2 enO hO1 eO1 eO2 hOr hO4 hOi hOe hO30
  have en1 : gn hO (x0 + 1) = gn h (x0 + 1) := by unfold gn; rw [eO1, eW1]
  have cf : ∀ hc, gFr (x0 + 3) hO hc → ∀ i k, gCof hc (x0 + 1) i k = gCof h (x0 + 1) i k := fun hc z i k => by
    refine gCof_same ?_ ?_ i k
    · rw [z.1, eO1, eW1]
    · rw [z.2.2.1 _ (by omega), eO2, eWo (x0 + 1 + 1) (by omega)]
  have loop : ∀ i, i ≤ gn h (x0 + 1) → ∀ hc o, gRow (x0 + 3) hO hc (fun r q => r < i ∧ q < gn h (x0 + 1)) (fun r c => if (nI c + nI r) - (nI c + nI r) / 2 * 2 = 0 then gCof h (x0 + 1) (nI c) (nI r) else - gCof h (x0 + 1) (nI c) (nI r)) → X 27 [some (.ref x0), some (.int (nI i)), o] [] hc := by
    refine mv_up (gn h (x0 + 1)) ?_
    intro i hi ih hc o z
    have inner : i < gn h (x0 + 1) → ∀ k, k ≤ gn h (x0 + 1) → ∀ hk, gRow (x0 + 3) hO hk (fun r q => (r < i ∧ q < gn h (x0 + 1)) ∨ (r = i ∧ q < k)) (fun r c => if (nI c + nI r) - (nI c + nI r) / 2 * 2 = 0 then gCof h (x0 + 1) (nI c) (nI r) else - gCof h (x0 + 1) (nI c) (nI r)) → X 40 [some (.ref x0), some (.int (nI i)), some (.int (nI k))] [] hk := by
      intro hlt
      refine mv_up (gn h (x0 + 1)) ?_
      intro k hkn ihk hk z
      have hgc := z.1.ok hO2
      have hfc := z.1.ok hO1
      have hrk : hk.2.2 = h.2.2 := z.1.2.1.trans hOr
      have egn : gn hk (x0 + 1) = gn h (x0 + 1) := z.1.gn.trans en1
      have ecn : gn hk (x0 + 3) = gn h (x0 + 1) := z.1.gn.trans enO
      refine mv_go hX 60 ?_
      simp only [mv_wps, mv_exq, mv_exr, mv_exn, mv_xg, mv_xpi, mv_xpl, mv_xpr, mv_xc, mv_xc2, mv_xs, mv_9z, mv_cqs, mv_calls, mv_lgz, mv_stz, mv_kz, mv_cz, mv_fvs, mv_ats, mv_ics, mv_rz, mv_tz, mv_cns, mv_nfs, mv_fins, mv_det, mv_cc, mv_c0, Nat.reduceAdd, Nat.reduceEqDiff, Nat.reduceLT, Nat.reduceLeDiff, Nat.reduceSub, reduceIte, decide_false, decide_true, Bool.false_eq_true, List.map_cons, List.map_nil, List.sum_cons, List.sum_nil, true_and, and_true, true_or, or_true, false_or, or_false, false_and, and_false, true_implies, false_implies, implies_true, not_true_eq_false, not_false_eq_true, lg_cmp_ge, lg_cmp_le, lg_cmp_gt, lg_cmp_lt, lg_cmp_eq, qX3_settle, flX3s, cIX3s, cLX3s, csX3_settle, sX3_settle, sX1_determinant, sX1_lines, sX1_open, sX1_cofactor, sX1_put, sX1_isEvenAcross, sX3_setStepFacts, ms_a, ms_ai, ms_aii, ms_aiil, ms_alll, k1, hrk, r1, r2, r3, g1.1, g2.1, hgc, hfc, hfc.2.2.2.1, egn, cf hk z.1]
      refine ⟨fun hcc => ?_, fun hcc => ?_⟩
      · rw [nI_leI (by omega) (by omega)] at hcc
        obtain rfl : k = gn h (x0 + 1) := by omega
        rw [nI_1]
        refine ih hlt _ _ ⟨z.1, fun r q hr hq => ⟨fun w => (z.2 r q hr hq).1 (by omega), fun w => (z.2 r q hr hq).2 (by omega)⟩⟩
      · rw [nI_leI (by omega) (by omega)] at hcc
        rw [nI_1 k, gPut_nI (by omega) (by omega) (by omega)]
        refine ihk (by omega) _ (z.put (by omega) (by omega) _ rfl ?_)
        intro r q
        omega
    have hgc := z.1.ok hO2
    have hfc := z.1.ok hO1
    have hrk : hc.2.2 = h.2.2 := z.1.2.1.trans hOr
    have egn : gn hc (x0 + 1) = gn h (x0 + 1) := z.1.gn.trans en1
    refine mv_go hX 90 ?_
    simp only [mv_wps, mv_exq, mv_exr, mv_exn, mv_xg, mv_xpi, mv_xpl, mv_xpr, mv_xc, mv_xc2, mv_xs, mv_9z, mv_cqs, mv_calls, mv_lgz, mv_stz, mv_kz, mv_cz, mv_fvs, mv_ats, mv_ics, mv_rz, mv_tz, mv_cns, mv_nfs, mv_fins, mv_det, mv_cc, mv_c0, Nat.reduceAdd, Nat.reduceEqDiff, Nat.reduceLT, Nat.reduceLeDiff, Nat.reduceSub, reduceIte, decide_false, decide_true, Bool.false_eq_true, List.map_cons, List.map_nil, List.sum_cons, List.sum_nil, true_and, and_true, true_or, or_true, false_or, or_false, false_and, and_false, true_implies, false_implies, implies_true, not_true_eq_false, not_false_eq_true, lg_cmp_ge, lg_cmp_le, lg_cmp_gt, lg_cmp_lt, lg_cmp_eq, qX3_settle, flX3s, cIX3s, cLX3s, csX3_settle, sX3_settle, sX1_determinant, sX1_lines, sX1_open, sX1_cofactor, sX1_put, sX1_isEvenAcross, sX3_setStepFacts, ms_a, ms_ai, ms_aii, ms_aiil, ms_alll, k1, hrk, r1, r2, r3, g1.1, g2.1, hgc, hfc, hfc.2.2.2.1, egn, hl, hv, clampC, mv_slR, b01_z]
    refine ⟨fun hcc => ?_, fun hcc => ?_⟩
    · rw [nI_leI (by omega) (by omega)] at hcc
      obtain rfl : i = gn h (x0 + 1) := by omega
      have ei1 : ∀ o j : Nat, ¬ (o = x0 + 3 ∧ j = 0) → hc.1 o j = h.1 o j := fun o j ho => by rw [z.1.1]; exact hOi o j ho
      have el1 : ∀ o : Nat, o ≠ x0 → o ≠ x0 + 4 → hc.2.1 o = h.2.1 o := fun o h1 h2 => by
        rw [z.1.2.2.1 o h2, hO4 o h2, eWo o h1]
      have ew : hc.2.1 x0 3 = gDet h (x0 + 1) (h.1 (x0 + 1) 0) := by
        rw [z.1.2.2.1 x0 (by omega), hO4 x0 (by omega), ← hwe]
        simp [mv_sl]
      have fin : ∀ v : Int64, v = (if b01 (gEven h (x0 + 1)) = 0 then 0 else 1) → ∀ w, w = hc.2.1 x0 3 → laOk kd (mv_sl (mv_sl (mv_sl (mv_sl hc (x0 + 5) 0 (nI (gn h (x0 + 1))).toInt64) (x0 + 5) 1 w) (x0 + 5) 2 v) (x0 + 5) 6 (-9)) x0 ∧ laSet h (laSteps (mv_sl (mv_sl (mv_sl (mv_sl hc (x0 + 5) 0 (nI (gn h (x0 + 1))).toInt64) (x0 + 5) 1 w) (x0 + 5) 2 v) (x0 + 5) 6 (-9)) x0 (-9) (-9) (-9)) x0 := by
        intro v hvv w hww
        subst hww
        refine ⟨⟨k1, k2, by show hc.2.2 x0 0 = _; rw [hrk]; exact r1, by show hc.2.2 x0 1 = _; rw [hrk]; exact r2, by show hc.2.2 x0 2 = _; rw [hrk]; exact r3, hfc, hgc⟩, ?_⟩
        refine ⟨hrk, ei1, ?_, ?_, ?_, ?_, ?_, ?_, ?_, ?_, ?_, ?_, ?_⟩
        · show hc.1 (x0 + 3) 0 = _
          rw [z.1.1]; exact hO30
        · intro o h1 h2 h3
          rw [← el1 o h1 h2]
          funext j
          simp [laSteps, mv_sl, h3]
        · rw [← ew]
          simp [laSteps, mv_sl]
        · intro r c hr hcc
          have e5 : ∀ (M : mv_M) (k : Nat) (q : Int64), gE (mv_sl M (x0 + 5) k q) (x0 + 3) r c = gE M (x0 + 3) r c := fun M k q => gE_sl_o (by omega)
          unfold laSteps
          rw [e5, e5, e5, e5, e5, e5, e5]
          by_cases hin : r < gn h (x0 + 1) ∧ c < gn h (x0 + 1)
          · rw [if_pos hin, (z.2 r c hr hcc).1 hin]
          · rw [if_neg hin, (z.2 r c hr hcc).2 hin, hOe r c hr hcc]
        · rw [g1.2.2.2.1]
          simp [laSteps, mv_sl]
        · rw [← ew]
          simp [laSteps, mv_sl]
        · rw [← hvv]
          simp [laSteps, mv_sl]
        · simp [laSteps, mv_sl]
        · simp [laSteps, mv_sl]
        · simp [laSteps, mv_sl]
        · simp [laSteps, mv_sl]
      have hge : ∀ (k1 k2 : Nat) (v1 v2 : Int64), gEven (mv_sl (mv_sl hc (x0 + 5) k1 v1) (x0 + 5) k2 v2) (x0 + 1) ↔ gEven h (x0 + 1) := by
        intro k1 k2 v1 v2
        have e1 : gn (mv_sl (mv_sl hc (x0 + 5) k1 v1) (x0 + 5) k2 v2) (x0 + 1) = gn h (x0 + 1) := egn
        have e2 : ∀ i, gE (mv_sl (mv_sl hc (x0 + 5) k1 v1) (x0 + 5) k2 v2) (x0 + 1) i i = gE h (x0 + 1) i i := fun i => by
          rw [gE_sl_o (by omega), gE_sl_o (by omega)]
          unfold gE
          rw [el1 (x0 + 1 + 1) (by omega) (by omega)]
        unfold gEven
        rw [e1]
        simp only [e2]
      have eww : ∀ (k1 : Nat) (v1 : Int64), (mv_sl hc (x0 + 5) k1 v1).2.1 x0 3 = hc.2.1 x0 3 := fun k1 v1 => by simp [mv_sl]
      refine ⟨hfc, fun he => ?_, fun he => ?_⟩
      · rw [hge] at he
        exact fin 0 (by rw [b01_f he]; rfl) _ (eww _ _)
      · rw [hge] at he
        exact fin 1 (by rw [b01_t (Classical.not_not.mp he)]; rfl) _ (eww _ _)
    · rw [nI_leI (by omega) (by omega)] at hcc
      refine inner (by omega) 0 (by omega) _ ⟨z.1, fun r q hr hq => ⟨fun w => (z.2 r q hr hq).1 (by omega), fun w => (z.2 r q hr hq).2 (by omega)⟩⟩
  refine mv_go hX 60 ?_
  simp only [mv_wps, mv_exq, mv_exr, mv_exn, mv_xg, mv_xpi, mv_xpl, mv_xpr, mv_xc, mv_xc2, mv_xs, mv_9z, mv_cqs, mv_calls, mv_lgz, mv_stz, mv_kz, mv_cz, mv_fvs, mv_ats, mv_ics, mv_rz, mv_tz, mv_cns, mv_nfs, mv_fins, mv_det, mv_cc, mv_c0, Nat.reduceAdd, Nat.reduceEqDiff, Nat.reduceLT, Nat.reduceLeDiff, Nat.reduceSub, reduceIte, decide_false, decide_true, Bool.false_eq_true, List.map_cons, List.map_nil, List.sum_cons, List.sum_nil, true_and, and_true, true_or, or_true, false_or, or_false, false_and, and_false, true_implies, false_implies, implies_true, not_true_eq_false, not_false_eq_true, lg_cmp_ge, lg_cmp_le, lg_cmp_gt, lg_cmp_lt, lg_cmp_eq, qX3_settle, flX3s, cIX3s, cLX3s, csX3_settle, sX3_settle, sX1_determinant, sX1_lines, sX1_open, sX1_cofactor, sX1_put, sX1_isEvenAcross, sX3_setStepFacts, ms_a, ms_ai, ms_aii, ms_aiil, ms_alll, k1, hw, r1, r2, r3, g1, g1.1, g2.1, hwe]
  rw [show hW.1 (x0 + 1) 0 = h.1 (x0 + 1) 0 by rw [eW1], hoe]
  exact ⟨g1w, g2w, loop 0 (by omega) hO _ (gRow.rf _ hO (fun r c => by omega))⟩
