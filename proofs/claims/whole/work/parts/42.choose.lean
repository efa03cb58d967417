/-! The hunt: the search itself. -/
def chK (u : Nat) (M N : mv_M) : Prop := N.2.2 = M.2.2 ∧ (∀ o j, o ≠ u + 7 → ¬ (o = u ∧ (j = 1 ∨ j = 4)) → N.1 o j = M.1 o j) ∧ (∀ o j, o ≠ u + 9 → o ≠ u + 10 → ¬ (o = u ∧ j = 2) → N.2.1 o j = M.2.1 o j)
theorem chK.rf (u : Nat) (M : mv_M) : chK u M M := ⟨rfl, fun _ _ _ _ => rfl, fun _ _ _ _ _ => rfl⟩
theorem chK.tr {u : Nat} {M N P : mv_M} (z : chK u M N) (y : chK u N P) : chK u M P := ⟨y.1.trans z.1, fun o j q r => (y.2.1 o j q r).trans (z.2.1 o j q r), fun o j q r s => (y.2.2 o j q r s).trans (z.2.2 o j q r s)⟩
def huP (kd : List (Nat × Nat)) (h : mv_M) (u : Nat) : Prop := huOk kd h u ∧ isN (h.1 u 0) 5 ∧ (∀ i, i < (h.1 u 0).toNatClampNeg → isN (h.1 (u + 5) i) 1001 ∧ isN (h.1 (u + 6) i) 1001) ∧ (h.1 u 3 = 0 ∨ h.1 u 3 = 1)
theorem chK.gok {kd : List (Nat × Nat)} {u g : Nat} {M N : mv_M} (z : chK u M N) (h1 : g ≠ u + 7) (h2 : g ≠ u) (w : gOk kd M g) : gOk kd N g := by
  obtain ⟨q1, q2, q3, q4, q5⟩ := w
  have e : N.1 g 0 = M.1 g 0 := z.2.1 g 0 h1 (fun k => h2 k.1)
  have e2 : gn N g = gn M g := congrArg Int32.toNatClampNeg e
  exact ⟨q1, q2, by rw [z.1]; exact q3, by rw [e, e2]; exact q4, by rw [e2]; exact q5⟩
theorem chK.ok {kd : List (Nat × Nat)} {u : Nat} {M N : mv_M} (z : chK u M N) (w : huP kd M u) : huP kd N u := by
  obtain ⟨⟨a1, a2, a3, a4⟩, b, c, d⟩ := w
  have e0 : N.1 u 0 = M.1 u 0 := z.2.1 u 0 (by omega) (by omega)
  have e3 : N.1 u 3 = M.1 u 3 := z.2.1 u 3 (by omega) (by omega)
  refine ⟨⟨a1, by rw [z.1]; exact a2, z.gok (by omega) (by omega) a3, z.gok (by omega) (by omega) a4⟩, by rw [e0]; exact b, fun i hi => ?_, by rw [e3]; exact d⟩
  rw [z.2.1 (u + 5) i (by omega) (by omega), z.2.1 (u + 6) i (by omega) (by omega)]
  exact c i (by rw [← e0]; exact hi)
theorem huH_chK (h : mv_M) (u r lv : Nat) : chK u h (huH h u r lv) := by
  refine ⟨rfl, fun o j h1 h2 => ?_, fun o j h1 h2 h3 => ?_⟩
  · simp [huH, fillA, mv_si, h1]
  · simp [huH, fillA, mv_si, h1, h2]
noncomputable def chL (rec : mv_M → Int32 × mv_M) (u lv : Nat) : Nat → Nat → mv_M → Int32 × mv_M
  | 0, _, M => (0, M)
  | n + 1, r, M => if M.1 u 1 < 200000 then (if b01 (huW (mv_si M u 1 (M.1 u 1 + 1)) u r lv) = 0 then chL rec u lv n (r + 1) (mv_si M u 1 (M.1 u 1 + 1)) else if (rec (huH (mv_si M u 1 (M.1 u 1 + 1)) u r lv)).1 = 0 then chL rec u lv n (r + 1) (rec (huH (mv_si M u 1 (M.1 u 1 + 1)) u r lv)).2 else (1, (rec (huH (mv_si M u 1 (M.1 u 1 + 1)) u r lv)).2)) else (1, mv_si M u 4 1)
noncomputable def chF (u : Nat) : Nat → Nat → mv_M → Int32 × mv_M
  | 0, _, M => (M.1 u 3, mv_sl M u 2 (M.2.1 u 2 + 1))
  | d + 1, lv, M => if (M.1 u 0).toNatClampNeg ≤ lv ∨ 4 ≤ lv then (M.1 u 3, mv_sl M u 2 (M.2.1 u 2 + 1)) else chL (chF u d (lv + 1)) u lv ((M.1 (u + 6) lv).toNatClampNeg - (M.1 (u + 5) lv).toNatClampNeg) (M.1 (u + 5) lv).toNatClampNeg M
theorem chL_chK {rec : mv_M → Int32 × mv_M} {u lv : Nat} (hr : ∀ M, chK u M (rec M).2) : ∀ (n r : Nat) (M : mv_M), chK u M (chL rec u lv n r M).2
  | 0, _, M => chK.rf u M
  | n + 1, r, M => by
    have e1 : chK u M (mv_si M u 1 (M.1 u 1 + 1)) := ⟨rfl, fun o j h1 h2 => by
      have : ¬ (o = u ∧ j = 1) := fun z => h2 ⟨z.1, Or.inl z.2⟩
      simp [mv_si, this], fun _ _ _ _ _ => rfl⟩
    have e4 : chK u M (mv_si M u 4 1) := ⟨rfl, fun o j h1 h2 => by
      have : ¬ (o = u ∧ j = 4) := fun z => h2 ⟨z.1, Or.inr z.2⟩
      simp [mv_si, this], fun _ _ _ _ _ => rfl⟩
    have e2 := e1.tr ((huH_chK (mv_si M u 1 (M.1 u 1 + 1)) u r lv).tr (hr _))
    unfold chL
    split
    · split
      · exact e1.tr (chL_chK hr n _ _)
      · split
        · exact e2.tr (chL_chK hr n _ _)
        · exact e2
    · exact e4
theorem chF_chK (u : Nat) : ∀ (d lv : Nat) (M : mv_M), chK u M (chF u d lv M).2
  | 0, _, M => ⟨rfl, fun _ _ _ _ => rfl, fun o j h1 h2 h3 => by simp [chF, mv_sl, h3]⟩
  | d + 1, lv, M => by
    unfold chF
    split
    · exact ⟨rfl, fun _ _ _ _ => rfl, fun o j h1 h2 h3 => by simp [mv_sl, h3]⟩
    · exact chL_chK (fun N => chF_chK u d (lv + 1) N) _ _ _
noncomputable def sX2_chooseD (d : Nat) (kd : List (Nat × Nat)) : mv_S := ms_ai (fun u lv h => huP kd h u ∧ isN lv 5 ∧ 4 ≤ lv.toNatClampNeg + d) (fun u lv h v h' => v = some (.int (chF u d lv.toNatClampNeg h).1) ∧ h' = (chF u d lv.toNatClampNeg h).2)
noncomputable def sX2_choose (kd : List (Nat × Nat)) : mv_S := sX2_chooseD 4 kd
noncomputable def csX2_choose (d : Nat) (kd : List (Nat × Nat)) : mv_CS := mv_cc 102 2 2 (sX2_meetsAsWanted kd) (mv_cc 106 2 2 (sX2_hold kd) (mv_cc 84 2 1 (sX2_chooseD d kd) mv_c0))
set_option maxRecDepth 100000 in
set_option maxHeartbeats 4000000 in
theorem ctX2_chooseD {l : Launch} {b : Nat} {ad : Nat → Nat} {D : va_G} {cA : Nat → ClassId} {kd : List (Nat × Nat)} (had : ∀ i, i < kd.length → ad i = b + i) : ∀ d, mv_Ct l b ad D cA kd yX2_choose cX2_choose 3 (some .boolean) (12 + d) (sX2_chooseD d kd) := by
  intro d
  induction d with
  | zero =>
    refine mv_introF (rk := 2) (cs := mv_c0) tX2_choose (mv_pf plRX2) kX2_choose had ⟨(fun e => by cases e), (fun e => by cases e), (fun _ => rfl), (fun e => by cases e), (fun e => by cases e)⟩ (mv_o0 flX2_ok cIX2_ok cLX2_ok) ?_
    intro h as hp
    obtain ⟨x0, x1, rfl, hq⟩ := ms_ai_inv hp
    refine ⟨Nat.le_of_ble_eq_true rfl, fun X hX => ?_⟩
    obtain ⟨⟨⟨⟨k1, k2, k3, k4, k5, k6, k7⟩, ⟨r1, r2, r3, r4, r5, r6, r7, r8⟩, g1, g2⟩, ⟨e0, h0⟩, hbe, h01⟩, ⟨e1, h1⟩, h2⟩ := hq
    generalize hi : x1.toNatClampNeg = lv at e1 h1 h2
    subst e1
    have h4 : ¬ nI lv < 4 := by
      rw [nI_c4, nI_ltI (by omega) (by omega)]; omega
    show X 0 [some (.ref x0), some (.int (nI lv)), none] [] h
    refine mv_go hX 60 ?_
    simp only [mv_wps, mv_exq, mv_exr, mv_exn, mv_xg, mv_xpi, mv_xpl, mv_xpr, mv_xc, mv_xc2, mv_xs, mv_9z, mv_cqs, mv_calls, mv_lgz, mv_stz, mv_kz, mv_cz, mv_fvs, mv_ats, mv_ics, mv_rz, mv_tz, mv_cns, mv_nfs, mv_fins, mv_det, mv_cc, mv_c0, Nat.reduceAdd, Nat.reduceEqDiff, Nat.reduceLT, Nat.reduceLeDiff, Nat.reduceSub, reduceIte, decide_false, decide_true, Bool.false_eq_true, List.map_cons, List.map_nil, List.sum_cons, List.sum_nil, true_and, and_true, true_or, or_true, false_or, or_false, false_and, and_false, true_implies, false_implies, implies_true, not_true_eq_false, not_false_eq_true, lg_cmp_ge, lg_cmp_le, lg_cmp_gt, lg_cmp_lt, lg_cmp_eq, qX2_choose, flX2s, cIX2s, cLX2s, csX2_choose, sX2_choose, sX2_meetsAsWanted, sX2_hold, sX2_choose, ms_ai, ms_aii, sX2_chooseD, chF, k1, h4, h01, mv_slR]
  | succ d ihd =>
    refine mv_introF (rk := 2) (cs := csX2_choose d kd) tX2_choose (mv_pf plRX2) kX2_choose had ⟨(fun e => by cases e), (fun e => by cases e), (fun _ => rfl), (fun e => by cases e), (fun e => by cases e)⟩ (mv_oV lRX2_102 zX2_meetsAsWanted rfl (by decide) (ctX2_meetsAsWanted had) ⟨by show 2 + 2 ≤ 12 + (d + 1) + 1; omega, by show 8 + (7 + 11) + 100 * (2 + 1) ≤ 100 * (12 + (d + 1) + 1); omega⟩ (mv_oV lRX2_106 zX2_hold rfl (by decide) (ctX2_hold had) ⟨by show 1 + 2 ≤ 12 + (d + 1) + 1; omega, by show 8 + (4 + 11) + 100 * (1 + 1) ≤ 100 * (12 + (d + 1) + 1); omega⟩ (mv_oV lRX2_84 zX2_choose rfl (by decide) ihd ⟨by show 12 + d + 2 ≤ 12 + (d + 1) + 1; omega, by show 8 + (3 + 11) + 100 * (12 + d + 1) ≤ 100 * (12 + (d + 1) + 1); omega⟩ (mv_o0 flX2_ok cIX2_ok cLX2_ok)))) ?_
    intro h as hp
    obtain ⟨x0, x1, rfl, hq⟩ := ms_ai_inv hp
    refine ⟨Nat.le_of_ble_eq_true rfl, fun X hX => ?_⟩
    obtain ⟨hP, ⟨e1, h1⟩, h2⟩ := hq
    generalize hi : x1.toNatClampNeg = lv at e1 h1 h2
    subst e1
    obtain ⟨⟨⟨k1, k2, k3, k4, k5, k6, k7⟩, ⟨r1, r2, r3, r4, r5, r6, r7, r8⟩, g1, g2⟩, ⟨e0, h0⟩, hbe, h01⟩ := id hP
    generalize hn : (h.1 x0 0).toNatClampNeg = n at e0 h0
    have fin : ∀ (v : Int32) (M : mv_M), (v, M) = chF x0 (d + 1) lv h → v = (chF x0 (d + 1) lv h).1 ∧ M = (chF x0 (d + 1) lv h).2 := fun v M z => by rw [← z]; exact ⟨rfl, rfl⟩
    have loop : lv < 4 → lv < n → ∀ m r M, r + m = (h.1 (x0 + 6) lv).toNatClampNeg ∨ (m = 0 ∧ (h.1 (x0 + 6) lv).toNatClampNeg ≤ r ∧ r < 1001) → chK x0 h M → chL (chF x0 d (lv + 1)) x0 lv m r M = chF x0 (d + 1) lv h → X 35 [some (.ref x0), some (.int (nI lv)), some (.int (nI r))] [] M := by
      intro hl4 hln m
      induction m with
      | zero =>
        intro r M hr hk he
        have hPM := hk.ok hP
        have hE : M.1 (x0 + 6) lv = nI (h.1 (x0 + 6) lv).toNatClampNeg := by
          rw [hk.2.1 (x0 + 6) lv (by omega) (by omega)]
          exact (hbe lv (by omega)).2.1
        have hb : (h.1 (x0 + 6) lv).toNatClampNeg < 1001 := (hbe lv (by omega)).2.2
        obtain ⟨z1, z2⟩ := fin _ _ he
        have hi4 : vp_in (nI lv) 4 := vp_in_nI (by omega) (by omega)
        refine mv_go hX 60 ?_
        simp only [mv_wps, mv_exq, mv_exr, mv_exn, mv_xg, mv_xpi, mv_xpl, mv_xpr, mv_xc, mv_xc2, mv_xs, mv_9z, mv_cqs, mv_calls, mv_lgz, mv_stz, mv_kz, mv_cz, mv_fvs, mv_ats, mv_ics, mv_rz, mv_tz, mv_cns, mv_nfs, mv_fins, mv_det, mv_cc, mv_c0, Nat.reduceAdd, Nat.reduceEqDiff, Nat.reduceLT, Nat.reduceLeDiff, Nat.reduceSub, reduceIte, decide_false, decide_true, Bool.false_eq_true, List.map_cons, List.map_nil, List.sum_cons, List.sum_nil, true_and, and_true, true_or, or_true, false_or, or_false, false_and, and_false, true_implies, false_implies, implies_true, not_true_eq_false, not_false_eq_true, lg_cmp_ge, lg_cmp_le, lg_cmp_gt, lg_cmp_lt, lg_cmp_eq, qX2_choose, flX2s, cIX2s, cLX2s, csX2_choose, sX2_choose, sX2_meetsAsWanted, sX2_hold, sX2_choose, ms_ai, ms_aii, sX2_chooseD, k1, hk.1, r4, mv_lenK k3, nI_clamp (show lv < 2 ^ 31 by omega), hE]
        refine ⟨hi4, fun hc => ?_, fun hc => ?_⟩
        · exact ⟨by rw [← z1], z2⟩
        · rw [nI_leI (by omega) (by omega)] at hc
          omega
      | succ m ihm =>
        intro r M hr hk he
        have hPM := hk.ok hP
        have hr' : r + (m + 1) = (h.1 (x0 + 6) lv).toNatClampNeg := by omega
        have hE : M.1 (x0 + 6) lv = nI (h.1 (x0 + 6) lv).toNatClampNeg := by
          rw [hk.2.1 (x0 + 6) lv (by omega) (by omega)]
          exact (hbe lv (by omega)).2.1
        have hb : (h.1 (x0 + 6) lv).toNatClampNeg < 1001 := (hbe lv (by omega)).2.2
        have hi4 : vp_in (nI lv) 4 := vp_in_nI (by omega) (by omega)
        have e1 : chK x0 M (mv_si M x0 1 (M.1 x0 1 + 1)) := ⟨rfl, fun o j h1 h2 => by
          have : ¬ (o = x0 ∧ j = 1) := fun z => h2 ⟨z.1, Or.inl z.2⟩
          simp [mv_si, this], fun _ _ _ _ _ => rfl⟩
        have p1 := e1.ok hPM
        have p2 := (huH_chK (mv_si M x0 1 (M.1 x0 1 + 1)) x0 r lv).ok p1
        have c1 := hk.tr e1
        have c2 := c1.tr ((huH_chK (mv_si M x0 1 (M.1 x0 1 + 1)) x0 r lv).tr (chF_chK x0 d (lv + 1) _))
        have n1 : isN (nI r) 1000 := isN.nI (by omega) (by omega)
        have n2 : isN (nI lv) 4 := isN.nI (by omega) (by omega)
        have n3 : isN (nI (lv + 1)) 5 := isN.nI (by omega) (by omega)
        have cl : (nI (lv + 1)).toNatClampNeg = lv + 1 := nI_clamp (by omega)
        have cr : (nI r).toNatClampNeg = r := nI_clamp (by omega)
        have h4 : 4 ≤ lv + 1 + d := by omega
        refine mv_go hX 60 ?_
        simp only [mv_wps, mv_exq, mv_exr, mv_exn, mv_xg, mv_xpi, mv_xpl, mv_xpr, mv_xc, mv_xc2, mv_xs, mv_9z, mv_cqs, mv_calls, mv_lgz, mv_stz, mv_kz, mv_cz, mv_fvs, mv_ats, mv_ics, mv_rz, mv_tz, mv_cns, mv_nfs, mv_fins, mv_det, mv_cc, mv_c0, Nat.reduceAdd, Nat.reduceEqDiff, Nat.reduceLT, Nat.reduceLeDiff, Nat.reduceSub, reduceIte, decide_false, decide_true, Bool.false_eq_true, List.map_cons, List.map_nil, List.sum_cons, List.sum_nil, true_and, and_true, true_or, or_true, false_or, or_false, false_and, and_false, true_implies, false_implies, implies_true, not_true_eq_false, not_false_eq_true, lg_cmp_ge, lg_cmp_le, lg_cmp_gt, lg_cmp_lt, lg_cmp_eq, qX2_choose, flX2s, cIX2s, cLX2s, csX2_choose, sX2_choose, sX2_meetsAsWanted, sX2_hold, sX2_choose, ms_ai, ms_aii, sX2_chooseD, k1, hk.1, r4, mv_lenK k3, nI_clamp (show lv < 2 ^ 31 by omega), hE, p1, p2, p1.1, n1, n2, n3, nI_1 lv, cl, cr, h4]
        refine ⟨hi4, fun hc => ?_, fun hc => ?_⟩
        · rw [nI_leI (by omega) (by omega)] at hc
          omega
        · unfold chL at he
          refine ⟨fun hd => ?_, fun hd => ?_⟩
          · rw [if_pos hd] at he
            refine ⟨fun hz => ?_, fun hz => ⟨fun hy => ?_, fun hy => ?_⟩⟩
            · rw [if_pos hz] at he
              rw [nI_1 r]
              exact ihm (r + 1) _ (by omega) c1 he
            · rw [if_neg hz, if_pos hy] at he
              rw [nI_1 r]
              exact ihm (r + 1) _ (by omega) c2 he
            · rw [if_neg hz, if_neg hy] at he
              obtain ⟨z1, z2⟩ := fin _ _ he
              exact ⟨by rw [← z1], z2⟩
          · rw [if_neg hd] at he
            obtain ⟨z1, z2⟩ := fin _ _ he
            exact ⟨by rw [← z1], z2⟩
    show X 0 [some (.ref x0), some (.int (nI lv)), none] [] h
    refine mv_go hX 60 ?_
    simp only [mv_wps, mv_exq, mv_exr, mv_exn, mv_xg, mv_xpi, mv_xpl, mv_xpr, mv_xc, mv_xc2, mv_xs, mv_9z, mv_cqs, mv_calls, mv_lgz, mv_stz, mv_kz, mv_cz, mv_fvs, mv_ats, mv_ics, mv_rz, mv_tz, mv_cns, mv_nfs, mv_fins, mv_det, mv_cc, mv_c0, Nat.reduceAdd, Nat.reduceEqDiff, Nat.reduceLT, Nat.reduceLeDiff, Nat.reduceSub, reduceIte, decide_false, decide_true, Bool.false_eq_true, List.map_cons, List.map_nil, List.sum_cons, List.sum_nil, true_and, and_true, true_or, or_true, false_or, or_false, false_and, and_false, true_implies, false_implies, implies_true, not_true_eq_false, not_false_eq_true, lg_cmp_ge, lg_cmp_le, lg_cmp_gt, lg_cmp_lt, lg_cmp_eq, qX2_choose, flX2s, cIX2s, cLX2s, csX2_choose, sX2_choose, sX2_meetsAsWanted, sX2_hold, sX2_choose, ms_ai, ms_aii, sX2_chooseD, k1, r3, mv_lenK k2, mv_slR, h01, e0]
    rw [hi]
    have q4 : (nI lv < 4) = (lv < 4) := by rw [nI_c4, nI_ltI (by omega) (by omega)]
    have qn : (nI n ≤ nI lv) = (n ≤ lv) := by rw [nI_leI (by omega) (by omega)]
    rw [q4, qn]
    refine ⟨fun hc => ?_, fun hc => ⟨fun hd => ?_, fun hd => ?_⟩⟩
    · rw [chF, if_pos (by rw [hn]; exact Or.inl hc)]
      exact ⟨rfl, rfl⟩
    · have hb : (h.1 (x0 + 5) lv) = nI (h.1 (x0 + 5) lv).toNatClampNeg := (hbe lv (by omega)).1.1
      have hb2 := (hbe lv (by omega)).1.2
      rw [hb]
      refine ⟨vp_in_nI (by omega) (by omega), loop hd (by omega) ((h.1 (x0 + 6) lv).toNatClampNeg - (h.1 (x0 + 5) lv).toNatClampNeg) _ h (by omega) (chK.rf x0 h) ?_⟩
      rw [chF, if_neg (by rw [hn]; omega)]
    · rw [chF, if_pos (Or.inr (by omega))]
      exact ⟨rfl, rfl⟩
theorem ctX2_choose {l : Launch} {b : Nat} {ad : Nat → Nat} {D : va_G} {cA : Nat → ClassId} {kd : List (Nat × Nat)} (had : ∀ i, i < kd.length → ad i = b + i) : mv_Ct l b ad D cA kd yX2_choose cX2_choose 3 (some .boolean) 16 (sX2_choose kd) := ctX2_chooseD had 4
